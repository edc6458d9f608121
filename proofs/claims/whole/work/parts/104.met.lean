def mX6_aim (S : xS) (h0 : Nat) (p1 : Int32) : Option xS := if (p1 < 0 : Prop) then (some S) else (if (300 ≤ p1 : Prop) then (some S) else ((dO Yc (gR S h0 1) 10).bind fun d3 => (sI Yc S d3 p1 (gI S h0 2)).bind fun S4 => some S4))
set_option maxHeartbeats 4000000 in
set_option maxRecDepth 100000 in
theorem kX6_aim (l : Launch) (G : xG) (S : xS) (h0 : Nat) (p1 : Int32) (S' : xS) (hk0 : xk Yc h0 = 6) (hM : mX6_aim S h0 p1 = some S') : xM l yX6_aim cX6_aim 2 none 0 0 G Yc [.ref (xad G h0), .int p1] S (xQv G Yc S') := by
  refine x_start (own := RX6) (by decide +kernel) rfl (Nat.le_of_ble_eq_true rfl) ?_
  intro p e s m below meth c ls X hl hP hS
  obtain ⟨hx, hb, hml, hown, hts, hr, hlk, hK, hE, hJ⟩ := id X
  have hl : lv_has ls 2 [(0, .ref (xad G h0)), (1, .int p1)] := hl
  unfold mX6_aim at hM
  refine lv_iload_n hx hb dX6_aim_0 rfl (lv_at hl 1 rfl) ?_
  refine lv_if_lt (tgt := 21) hx hb dX6_aim_1 (by decide) (fun c1 => ?_) (fun c1 => ?_)
  · replace hM := (if_pos c1).symm.trans hM
    exact x_vret X hP hS hM dX6_aim_21
  · replace hM := (if_neg c1).symm.trans hM
    refine lv_iload_n hx hb dX6_aim_4 rfl (lv_at hl 1 rfl) ?_
    refine lv_sipush (v := 300) hx hb dX6_aim_5 (by decide) ?_
    refine lv_icmp_ge (tgt := 21) hx hb dX6_aim_8 (by decide) (fun c2 => ?_) (fun c2 => ?_)
    · replace hM := (if_pos c2).symm.trans hM
      exact x_vret X hP hS hM dX6_aim_21
    · replace hM := (if_neg c2).symm.trans hM
      refine lv_aload_n hx hb dX6_aim_11 rfl (lv_at hl 0 rfl) ?_
      obtain ⟨d3, ed3, hM⟩ := xb hM
      refine fdX6_1 X hP hk0 qw137 dX6_aim_12 ed3 ?_
      refine lv_iload_n hx hb dX6_aim_15 rfl (lv_at hl 1 rfl) ?_
      refine lv_aload_n hx hb dX6_aim_16 rfl (lv_at hl 0 rfl) ?_
      refine fgX6_2 X hP hk0 qw107 dX6_aim_17 ?_
      obtain ⟨S4, eS4, hM⟩ := xb hM
      refine x_iast X hP hS (dO_k ed3) eS4 dX6_aim_20 (fun H locs hP hS => ?_)
      exact x_vret X hP hS hM dX6_aim_21

def oX4_readIf (rec : Nat → xS → Nat → Int32 → Option xS) (S : xS) (h0 : Nat) (p1 : Int32) : Option xS := (rec 4 S h0 p1).bind fun S1 => (mX4_take S1 h0 63).bind fun S2 => (dO Yc (gR S2 h0 1) 6).bind fun d3 => (dO Yc (gR S2 h0 1) 6).bind fun d4 => (mX6_put S2 d4 3 0).bind fun S5 => (rec 0 S5 h0 p1).bind fun S6 => (mX4_take S6 h0 58).bind fun S7 => (dO Yc (gR S7 h0 1) 6).bind fun d8 => (dO Yc (gR S7 h0 1) 6).bind fun d9 => (mX6_put S7 d9 2 0).bind fun S10 => (dO Yc (gR S10 h0 1) 6).bind fun d11 => (mX6_aim S10 d11 (gI S2 d3 2)).bind fun S12 => (rec 0 S12 h0 p1).bind fun S13 => (dO Yc (gR S13 h0 1) 6).bind fun d14 => (mX6_aim S13 d14 (gI S7 d8 2)).bind fun S15 => (mX4_take S15 h0 211).bind fun S16 => some S16
set_option maxHeartbeats 4000000 in
set_option maxRecDepth 100000 in
theorem koX4_readIf (l : Launch) (G : xG) (rec : Nat → xS → Nat → Int32 → Option xS) {nn : Nat} (hrec : xHR l G rec (nn + 30) (40 * nn + 1500)) (S : xS) (h0 : Nat) (p1 : Int32) (S' : xS) (hk0 : xk Yc h0 = 4) (hM : oX4_readIf rec S h0 p1 = some S') : xM l yX4_readIf cX4_readIf 4 none (nn + 1 + 30) (40 * (nn + 1) + 1500) G Yc [.ref (xad G h0), .int p1] S (xQv G Yc S') := by
  refine x_start (own := RX4) (by decide +kernel) rfl (Nat.le_of_ble_eq_true rfl) ?_
  intro p e s m below meth c ls X hl hP hS
  obtain ⟨hx, hb, hml, hown, hts, hr, hlk, hK, hE, hJ⟩ := id X
  have hl : lv_has ls 4 [(0, .ref (xad G h0)), (1, .int p1)] := hl
  unfold oX4_readIf at hM
  refine lv_aload_n hx hb dX4_readIf_0 rfl (lv_at hl 0 rfl) ?_
  refine lv_iload_n hx hb dX4_readIf_1 rfl (lv_at hl 1 rfl) ?_
  obtain ⟨S1, eS1, hM⟩ := xb hM
  refine x_gov (x_runV (rest := []) X (hrec.2.2.2.2.1 S h0 p1 S1 hk0 eS1) qw146 okX4_readEither ⟨by simp only [xr]; omega, by simp only [xr]; omega⟩ hk0 (by decide) rfl hP hS rfl hl.1 rfl (Nat.le_of_ble_eq_true rfl) dX4_readIf_2) hS (fun H locs hP hS => ?_)
  refine lv_aload_n hx hb dX4_readIf_5 rfl (lv_at hl 0 rfl) ?_
  refine lv_bipush (v := 63) hx hb dX4_readIf_6 (by decide) ?_
  obtain ⟨S2, eS2, hM⟩ := xb hM
  refine x_gov (x_runV (rest := []) X (kX4_take l G S1 h0 63 S2 hk0 eS2) qw147 okX4_take ⟨by simp only [xr]; omega, by simp only [xr]; omega⟩ hk0 (by decide) rfl hP hS rfl hl.1 rfl (Nat.le_of_ble_eq_true rfl) dX4_readIf_8) hS (fun H locs hP hS => ?_)
  refine lv_aload_n hx hb dX4_readIf_11 rfl (lv_at hl 0 rfl) ?_
  obtain ⟨d3, ed3, hM⟩ := xb hM
  refine fdX4_1 X hP hk0 qw139 dX4_readIf_12 ed3 ?_
  refine fgX6_2 X hP (dO_k ed3) qw148 dX4_readIf_15 ?_
  refine lv_istore_n (lv' := [(2, .int (gI S2 d3 2)), (0, .ref (xad G h0)), (1, .int p1)]) hx hb dX4_readIf_18 rfl hl (by decide) rfl (fun ls hl => ?_)
  refine lv_aload_n hx hb dX4_readIf_19 rfl (lv_at hl 1 rfl) ?_
  obtain ⟨d4, ed4, hM⟩ := xb hM
  refine fdX4_1 X hP hk0 qw139 dX4_readIf_20 ed4 ?_
  refine lv_iconst (v := 3) hx hb dX4_readIf_23 (by decide) ?_
  refine lv_iconst (v := 0) hx hb dX4_readIf_24 (by decide) ?_
  obtain ⟨S5, eS5, hM⟩ := xb hM
  refine x_gov (x_runV (rest := []) X (kX6_put l G S2 d4 3 0 S5 (dO_k ed4) eS5) qw140 okX6_put ⟨by simp only [xr]; omega, by simp only [xr]; omega⟩ (dO_k ed4) (by decide) rfl hP hS rfl hl.1 rfl (Nat.le_of_ble_eq_true rfl) dX4_readIf_25) hS (fun H locs hP hS => ?_)
  refine lv_aload_n hx hb dX4_readIf_28 rfl (lv_at hl 1 rfl) ?_
  refine lv_iload_n hx hb dX4_readIf_29 rfl (lv_at hl 2 rfl) ?_
  obtain ⟨S6, eS6, hM⟩ := xb hM
  refine x_gov (x_runV (rest := []) X (hrec.1 S5 h0 p1 S6 hk0 eS6) qw141 okX4_readSum ⟨by simp only [xr]; omega, by simp only [xr]; omega⟩ hk0 (by decide) rfl hP hS rfl hl.1 rfl (Nat.le_of_ble_eq_true rfl) dX4_readIf_30) hS (fun H locs hP hS => ?_)
  refine lv_aload_n hx hb dX4_readIf_33 rfl (lv_at hl 1 rfl) ?_
  refine lv_bipush (v := 58) hx hb dX4_readIf_34 (by decide) ?_
  obtain ⟨S7, eS7, hM⟩ := xb hM
  refine x_gov (x_runV (rest := []) X (kX4_take l G S6 h0 58 S7 hk0 eS7) qw147 okX4_take ⟨by simp only [xr]; omega, by simp only [xr]; omega⟩ hk0 (by decide) rfl hP hS rfl hl.1 rfl (Nat.le_of_ble_eq_true rfl) dX4_readIf_36) hS (fun H locs hP hS => ?_)
  refine lv_aload_n hx hb dX4_readIf_39 rfl (lv_at hl 1 rfl) ?_
  obtain ⟨d8, ed8, hM⟩ := xb hM
  refine fdX4_1 X hP hk0 qw139 dX4_readIf_40 ed8 ?_
  refine fgX6_2 X hP (dO_k ed8) qw148 dX4_readIf_43 ?_
  refine lv_istore_n (lv' := [(3, .int (gI S7 d8 2)), (2, .int (gI S2 d3 2)), (0, .ref (xad G h0)), (1, .int p1)]) hx hb dX4_readIf_46 rfl hl (by decide) rfl (fun ls hl => ?_)
  refine lv_aload_n hx hb dX4_readIf_47 rfl (lv_at hl 2 rfl) ?_
  obtain ⟨d9, ed9, hM⟩ := xb hM
  refine fdX4_1 X hP hk0 qw139 dX4_readIf_48 ed9 ?_
  refine lv_iconst (v := 2) hx hb dX4_readIf_51 (by decide) ?_
  refine lv_iconst (v := 0) hx hb dX4_readIf_52 (by decide) ?_
  obtain ⟨S10, eS10, hM⟩ := xb hM
  refine x_gov (x_runV (rest := []) X (kX6_put l G S7 d9 2 0 S10 (dO_k ed9) eS10) qw140 okX6_put ⟨by simp only [xr]; omega, by simp only [xr]; omega⟩ (dO_k ed9) (by decide) rfl hP hS rfl hl.1 rfl (Nat.le_of_ble_eq_true rfl) dX4_readIf_53) hS (fun H locs hP hS => ?_)
  refine lv_aload_n hx hb dX4_readIf_56 rfl (lv_at hl 2 rfl) ?_
  obtain ⟨d11, ed11, hM⟩ := xb hM
  refine fdX4_1 X hP hk0 qw139 dX4_readIf_57 ed11 ?_
  refine lv_iload_n hx hb dX4_readIf_60 rfl (lv_at hl 1 rfl) ?_
  obtain ⟨S12, eS12, hM⟩ := xb hM
  refine x_gov (x_runV (rest := []) X (kX6_aim l G S10 d11 (gI S2 d3 2) S12 (dO_k ed11) eS12) qw149 okX6_aim ⟨by simp only [xr]; omega, by simp only [xr]; omega⟩ (dO_k ed11) (by decide) rfl hP hS rfl hl.1 rfl (Nat.le_of_ble_eq_true rfl) dX4_readIf_61) hS (fun H locs hP hS => ?_)
  refine lv_aload_n hx hb dX4_readIf_64 rfl (lv_at hl 2 rfl) ?_
  refine lv_iload_n hx hb dX4_readIf_65 rfl (lv_at hl 3 rfl) ?_
  obtain ⟨S13, eS13, hM⟩ := xb hM
  refine x_gov (x_runV (rest := []) X (hrec.1 S12 h0 p1 S13 hk0 eS13) qw141 okX4_readSum ⟨by simp only [xr]; omega, by simp only [xr]; omega⟩ hk0 (by decide) rfl hP hS rfl hl.1 rfl (Nat.le_of_ble_eq_true rfl) dX4_readIf_66) hS (fun H locs hP hS => ?_)
  refine lv_aload_n hx hb dX4_readIf_69 rfl (lv_at hl 2 rfl) ?_
  obtain ⟨d14, ed14, hM⟩ := xb hM
  refine fdX4_1 X hP hk0 qw139 dX4_readIf_70 ed14 ?_
  refine lv_iload_n hx hb dX4_readIf_73 rfl (lv_at hl 0 rfl) ?_
  obtain ⟨S15, eS15, hM⟩ := xb hM
  refine x_gov (x_runV (rest := []) X (kX6_aim l G S13 d14 (gI S7 d8 2) S15 (dO_k ed14) eS15) qw149 okX6_aim ⟨by simp only [xr]; omega, by simp only [xr]; omega⟩ (dO_k ed14) (by decide) rfl hP hS rfl hl.1 rfl (Nat.le_of_ble_eq_true rfl) dX4_readIf_74) hS (fun H locs hP hS => ?_)
  refine lv_aload_n hx hb dX4_readIf_77 rfl (lv_at hl 2 rfl) ?_
  refine lv_sipush (v := 211) hx hb dX4_readIf_78 (by decide) ?_
  obtain ⟨S16, eS16, hM⟩ := xb hM
  refine x_gov (x_runV (rest := []) X (kX4_take l G S15 h0 211 S16 hk0 eS16) qw147 okX4_take ⟨by simp only [xr]; omega, by simp only [xr]; omega⟩ hk0 (by decide) rfl hP hS rfl hl.1 rfl (Nat.le_of_ble_eq_true rfl) dX4_readIf_81) hS (fun H locs hP hS => ?_)
  exact x_vret X hP hS hM dX4_readIf_84

def jX4_readOne_89 (rec : Nat → xS → Nat → Int32 → Option xS) (S : xS) (h0 : Nat) (v1 : Int32) (v2 : Int32) : Option xS := (mX4_opens S h0 v1).bind fun q1 => if (q1.1 = 0 : Prop) then (some q1.2) else (if (v2 = 40 : Prop) then ((rec 0 q1.2 h0 (v1 + 1)).bind fun S9 => (mX4_take S9 h0 41).bind fun S10 => some S10) else (if (v2 = 45 : Prop) then ((rec 2 q1.2 h0 (v1 + 1)).bind fun S6 => (dO Yc (gR S6 h0 1) 6).bind fun d7 => (mX6_put S6 d7 4 0).bind fun S8 => some S8) else ((rec 3 q1.2 h0 (v1 + 1)).bind fun S5 => some S5)))
set_option maxHeartbeats 4000000 in
set_option maxRecDepth 100000 in
theorem wX4_readOne_89 {p : Program} {l : Launch} {e : Env} {s : State} {m : MethodId} {args : Array Value} {below : List Frame} {meth : Method} {c : Code} {G : xG} {S' : xS} (X : xX p s m args meth c cX4_readOne 3 none RX4 G Yc) (rec : Nat → xS → Nat → Int32 → Option xS) {nn : Nat} (hrec : xHR l G rec (nn + 30) (40 * nn + 1500)) : ∀ (S : xS) (h0 : Nat) (v1 : Int32) (v2 : Int32) (H : Heap) (locs : List Loc) (ls : Array Slot), jX4_readOne_89 rec  S h0 v1 v2 = some S' → xk Yc h0 = 4 → xP G Yc S H → va_S (xA G Yc) s.heap H locs → lv_has ls 3 [(0, .ref (xad G h0)), (1, .int v1), (2, .int v2)] → W p l e (xr (nn + 1 + 30) (40 * (nn + 1) + 1500)) s m args below meth c H locs 0 0 (MQ below (xQv G Yc S') args s 0 0 (xA G Yc)) (F0 m 89 ls []) := by
  obtain ⟨hx, hb, hml, hown, hts, hr, hlk, hK, hE, hJ⟩ := id X
  intro S h0 v1 v2 H locs ls hM hk0 hP hS hl
  unfold jX4_readOne_89 at hM
  refine lv_aload_n hx hb dX4_readOne_89 rfl (lv_at hl 0 rfl) ?_
  refine lv_iload_n hx hb dX4_readOne_90 rfl (lv_at hl 1 rfl) ?_
  obtain ⟨q1, eq1, hM⟩ := xb hM
  refine x_goi (x_runV (rest := []) X (kX4_opens l G S h0 v1 q1.1 q1.2 hk0 eq1) qw143 okX4_opens ⟨by simp only [xr]; omega, by simp only [xr]; omega⟩ hk0 (by decide) rfl hP hS rfl hl.1 rfl (Nat.le_of_ble_eq_true rfl) dX4_readOne_91) hS (fun H locs hP hS => ?_)
  refine lv_if_eq (tgt := 151) hx hb dX4_readOne_94 (by decide) (fun c2 => ?_) (fun c2 => ?_)
  · replace hM := (if_pos c2).symm.trans hM
    exact x_vret X hP hS hM dX4_readOne_151
  · replace hM := (if_neg c2).symm.trans hM
    refine lv_iload_n hx hb dX4_readOne_97 rfl (lv_at hl 2 rfl) ?_
    refine lv_bipush (v := 40) hx hb dX4_readOne_98 (by decide) ?_
    refine lv_icmp_ne (tgt := 119) hx hb dX4_readOne_100 (by decide) (fun c3 => ?_) (fun c3 => ?_)
    · replace hM := (if_neg c3).symm.trans hM
      refine lv_iload_n hx hb dX4_readOne_119 rfl (lv_at hl 2 rfl) ?_
      refine lv_bipush (v := 45) hx hb dX4_readOne_120 (by decide) ?_
      refine lv_icmp_ne (tgt := 144) hx hb dX4_readOne_122 (by decide) (fun c4 => ?_) (fun c4 => ?_)
      · replace hM := (if_neg c4).symm.trans hM
        refine lv_aload_n hx hb dX4_readOne_144 rfl (lv_at hl 0 rfl) ?_
        refine lv_iload_n hx hb dX4_readOne_145 rfl (lv_at hl 1 rfl) ?_
        refine lv_iconst (v := 1) hx hb dX4_readOne_146 (by decide) ?_
        refine lv_iadd hx hb dX4_readOne_147 ?_
        obtain ⟨S5, eS5, hM⟩ := xb hM
        refine x_gov (x_runV (rest := []) X (hrec.2.2.2.1 q1.2 h0 (v1 + 1) S5 hk0 eS5) qw152 okX4_readIf ⟨by simp only [xr]; omega, by simp only [xr]; omega⟩ hk0 (by decide) rfl hP hS rfl hl.1 rfl (Nat.le_of_ble_eq_true rfl) dX4_readOne_148) hS (fun H locs hP hS => ?_)
        exact x_vret X hP hS hM dX4_readOne_151
      · replace hM := (if_pos c4).symm.trans hM
        refine lv_aload_n hx hb dX4_readOne_125 rfl (lv_at hl 0 rfl) ?_
        refine lv_iload_n hx hb dX4_readOne_126 rfl (lv_at hl 1 rfl) ?_
        refine lv_iconst (v := 1) hx hb dX4_readOne_127 (by decide) ?_
        refine lv_iadd hx hb dX4_readOne_128 ?_
        obtain ⟨S6, eS6, hM⟩ := xb hM
        refine x_gov (x_runV (rest := []) X (hrec.2.2.1 q1.2 h0 (v1 + 1) S6 hk0 eS6) qw153 okX4_readOne ⟨by simp only [xr]; omega, by simp only [xr]; omega⟩ hk0 (by decide) rfl hP hS rfl hl.1 rfl (Nat.le_of_ble_eq_true rfl) dX4_readOne_129) hS (fun H locs hP hS => ?_)
        refine lv_aload_n hx hb dX4_readOne_132 rfl (lv_at hl 0 rfl) ?_
        obtain ⟨d7, ed7, hM⟩ := xb hM
        refine fdX4_1 X hP hk0 qw139 dX4_readOne_133 ed7 ?_
        refine lv_iconst (v := 4) hx hb dX4_readOne_136 (by decide) ?_
        refine lv_iconst (v := 0) hx hb dX4_readOne_137 (by decide) ?_
        obtain ⟨S8, eS8, hM⟩ := xb hM
        refine x_gov (x_runV (rest := []) X (kX6_put l G S6 d7 4 0 S8 (dO_k ed7) eS8) qw140 okX6_put ⟨by simp only [xr]; omega, by simp only [xr]; omega⟩ (dO_k ed7) (by decide) rfl hP hS rfl hl.1 rfl (Nat.le_of_ble_eq_true rfl) dX4_readOne_138) hS (fun H locs hP hS => ?_)
        refine lv_goto (tgt := 151) hx hb dX4_readOne_141 (by decide) ?_
        exact x_vret X hP hS hM dX4_readOne_151
    · replace hM := (if_pos c3).symm.trans hM
      refine lv_aload_n hx hb dX4_readOne_103 rfl (lv_at hl 0 rfl) ?_
      refine lv_iload_n hx hb dX4_readOne_104 rfl (lv_at hl 1 rfl) ?_
      refine lv_iconst (v := 1) hx hb dX4_readOne_105 (by decide) ?_
      refine lv_iadd hx hb dX4_readOne_106 ?_
      obtain ⟨S9, eS9, hM⟩ := xb hM
      refine x_gov (x_runV (rest := []) X (hrec.1 q1.2 h0 (v1 + 1) S9 hk0 eS9) qw141 okX4_readSum ⟨by simp only [xr]; omega, by simp only [xr]; omega⟩ hk0 (by decide) rfl hP hS rfl hl.1 rfl (Nat.le_of_ble_eq_true rfl) dX4_readOne_107) hS (fun H locs hP hS => ?_)
      refine lv_aload_n hx hb dX4_readOne_110 rfl (lv_at hl 0 rfl) ?_
      refine lv_bipush (v := 41) hx hb dX4_readOne_111 (by decide) ?_
      obtain ⟨S10, eS10, hM⟩ := xb hM
      refine x_gov (x_runV (rest := []) X (kX4_take l G S9 h0 41 S10 hk0 eS10) qw147 okX4_take ⟨by simp only [xr]; omega, by simp only [xr]; omega⟩ hk0 (by decide) rfl hP hS rfl hl.1 rfl (Nat.le_of_ble_eq_true rfl) dX4_readOne_113) hS (fun H locs hP hS => ?_)
      refine lv_goto (tgt := 151) hx hb dX4_readOne_116 (by decide) ?_
      exact x_vret X hP hS hM dX4_readOne_151
def jX4_readOne_62 (rec : Nat → xS → Nat → Int32 → Option xS) (S : xS) (h0 : Nat) (v1 : Int32) (v2 : Int32) : Option xS := if (v2 = 40 : Prop) then (jX4_readOne_89 rec  S h0 v1 v2) else (if (v2 = 45 : Prop) then (jX4_readOne_89 rec  S h0 v1 v2) else (if (v2 = 207 : Prop) then (jX4_readOne_89 rec  S h0 v1 v2) else ((mX4_fail S h0 1).bind fun S4 => some S4)))
set_option maxHeartbeats 4000000 in
set_option maxRecDepth 100000 in
theorem wX4_readOne_62 {p : Program} {l : Launch} {e : Env} {s : State} {m : MethodId} {args : Array Value} {below : List Frame} {meth : Method} {c : Code} {G : xG} {S' : xS} (X : xX p s m args meth c cX4_readOne 3 none RX4 G Yc) (rec : Nat → xS → Nat → Int32 → Option xS) {nn : Nat} (hrec : xHR l G rec (nn + 30) (40 * nn + 1500)) : ∀ (S : xS) (h0 : Nat) (v1 : Int32) (v2 : Int32) (H : Heap) (locs : List Loc) (ls : Array Slot), jX4_readOne_62 rec  S h0 v1 v2 = some S' → xk Yc h0 = 4 → xP G Yc S H → va_S (xA G Yc) s.heap H locs → lv_has ls 3 [(0, .ref (xad G h0)), (1, .int v1), (2, .int v2)] → W p l e (xr (nn + 1 + 30) (40 * (nn + 1) + 1500)) s m args below meth c H locs 0 0 (MQ below (xQv G Yc S') args s 0 0 (xA G Yc)) (F0 m 62 ls []) := by
  obtain ⟨hx, hb, hml, hown, hts, hr, hlk, hK, hE, hJ⟩ := id X
  intro S h0 v1 v2 H locs ls hM hk0 hP hS hl
  unfold jX4_readOne_62 at hM
  refine lv_iload_n hx hb dX4_readOne_62 rfl (lv_at hl 2 rfl) ?_
  refine lv_bipush (v := 40) hx hb dX4_readOne_63 (by decide) ?_
  refine lv_icmp_eq (tgt := 89) hx hb dX4_readOne_65 (by decide) (fun c1 => ?_) (fun c1 => ?_)
  · replace hM := (if_pos c1).symm.trans hM
    exact wX4_readOne_89 X rec hrec  S h0 v1 v2 _ _ _ hM hk0 hP hS (lv_sub hl [0, 1, 2] rfl)
  · replace hM := (if_neg c1).symm.trans hM
    refine lv_iload_n hx hb dX4_readOne_68 rfl (lv_at hl 2 rfl) ?_
    refine lv_bipush (v := 45) hx hb dX4_readOne_69 (by decide) ?_
    refine lv_icmp_eq (tgt := 89) hx hb dX4_readOne_71 (by decide) (fun c2 => ?_) (fun c2 => ?_)
    · replace hM := (if_pos c2).symm.trans hM
      exact wX4_readOne_89 X rec hrec  S h0 v1 v2 _ _ _ hM hk0 hP hS (lv_sub hl [0, 1, 2] rfl)
    · replace hM := (if_neg c2).symm.trans hM
      refine lv_iload_n hx hb dX4_readOne_74 rfl (lv_at hl 2 rfl) ?_
      refine lv_sipush (v := 207) hx hb dX4_readOne_75 (by decide) ?_
      refine lv_icmp_eq (tgt := 89) hx hb dX4_readOne_78 (by decide) (fun c3 => ?_) (fun c3 => ?_)
      · replace hM := (if_pos c3).symm.trans hM
        exact wX4_readOne_89 X rec hrec  S h0 v1 v2 _ _ _ hM hk0 hP hS (lv_sub hl [0, 1, 2] rfl)
      · replace hM := (if_neg c3).symm.trans hM
        refine lv_aload_n hx hb dX4_readOne_81 rfl (lv_at hl 0 rfl) ?_
        refine lv_iconst (v := 1) hx hb dX4_readOne_82 (by decide) ?_
        obtain ⟨S4, eS4, hM⟩ := xb hM
        refine x_gov (x_runV (rest := []) X (kX4_fail l G S h0 1 S4 hk0 eS4) qw135 okX4_fail ⟨by simp only [xr]; omega, by simp only [xr]; omega⟩ hk0 (by decide) rfl hP hS rfl hl.1 rfl (Nat.le_of_ble_eq_true rfl) dX4_readOne_83) hS (fun H locs hP hS => ?_)
        refine lv_goto (tgt := 151) hx hb dX4_readOne_86 (by decide) ?_
        exact x_vret X hP hS hM dX4_readOne_151
def oX4_readOne (rec : Nat → xS → Nat → Int32 → Option xS) (S : xS) (h0 : Nat) (p1 : Int32) : Option xS := if ((gI S h0 4) = 0 : Prop) then ((dO Yc (gR S h0 0) 7).bind fun d2 => if ((gI S d2 2) = 2 : Prop) then ((dO Yc (gR S h0 1) 6).bind fun d7 => (mX4_takeNumber S h0 0 9999).bind fun q8 => (mX6_put q8.2 d7 0 q8.1).bind fun S9 => some S9) else (if ((gI S d2 2) < 212 : Prop) then (jX4_readOne_62 rec  S h0 p1 (gI S d2 2)) else (if (217 < (gI S d2 2) : Prop) then (jX4_readOne_62 rec  S h0 p1 (gI S d2 2)) else ((mX4_readName S h0 (gI S d2 2)).bind fun S6 => some S6)))) else (some S)
set_option maxHeartbeats 4000000 in
set_option maxRecDepth 100000 in
theorem koX4_readOne (l : Launch) (G : xG) (rec : Nat → xS → Nat → Int32 → Option xS) {nn : Nat} (hrec : xHR l G rec (nn + 30) (40 * nn + 1500)) (S : xS) (h0 : Nat) (p1 : Int32) (S' : xS) (hk0 : xk Yc h0 = 4) (hM : oX4_readOne rec S h0 p1 = some S') : xM l yX4_readOne cX4_readOne 3 none (nn + 1 + 30) (40 * (nn + 1) + 1500) G Yc [.ref (xad G h0), .int p1] S (xQv G Yc S') := by
  refine x_start (own := RX4) (by decide +kernel) rfl (Nat.le_of_ble_eq_true rfl) ?_
  intro p e s m below meth c ls X hl hP hS
  obtain ⟨hx, hb, hml, hown, hts, hr, hlk, hK, hE, hJ⟩ := id X
  have hl : lv_has ls 3 [(0, .ref (xad G h0)), (1, .int p1)] := hl
  unfold oX4_readOne at hM
  refine lv_aload_n hx hb dX4_readOne_0 rfl (lv_at hl 0 rfl) ?_
  refine fgX4_4 X hP hk0 qw128 dX4_readOne_1 ?_
  refine lv_if_eq (tgt := 8) hx hb dX4_readOne_4 (by decide) (fun c1 => ?_) (fun c1 => ?_)
  · replace hM := (if_pos c1).symm.trans hM
    refine lv_aload_n hx hb dX4_readOne_8 rfl (lv_at hl 0 rfl) ?_
    obtain ⟨d2, ed2, hM⟩ := xb hM
    refine fdX4_0 X hP hk0 qw129 dX4_readOne_9 ed2 ?_
    refine fgX7_2 X hP (dO_k ed2) qw133 dX4_readOne_12 ?_
    refine lv_istore_n (lv' := [(2, .int (gI S d2 2)), (0, .ref (xad G h0)), (1, .int p1)]) hx hb dX4_readOne_15 rfl hl (by decide) rfl (fun ls hl => ?_)
    refine lv_iload_n hx hb dX4_readOne_16 rfl (lv_at hl 0 rfl) ?_
    refine lv_iconst (v := 2) hx hb dX4_readOne_17 (by decide) ?_
    refine lv_icmp_ne (tgt := 40) hx hb dX4_readOne_18 (by decide) (fun c3 => ?_) (fun c3 => ?_)
    · replace hM := (if_neg c3).symm.trans hM
      refine lv_iload_n hx hb dX4_readOne_40 rfl (lv_at hl 0 rfl) ?_
      refine lv_sipush (v := 212) hx hb dX4_readOne_41 (by decide) ?_
      refine lv_icmp_lt (tgt := 62) hx hb dX4_readOne_44 (by decide) (fun c4 => ?_) (fun c4 => ?_)
      · replace hM := (if_pos c4).symm.trans hM
        exact wX4_readOne_62 X rec hrec  S h0 p1 (gI S d2 2) _ _ _ hM hk0 hP hS (lv_sub hl [1, 2, 0] rfl)
      · replace hM := (if_neg c4).symm.trans hM
        refine lv_iload_n hx hb dX4_readOne_47 rfl (lv_at hl 0 rfl) ?_
        refine lv_sipush (v := 217) hx hb dX4_readOne_48 (by decide) ?_
        refine lv_icmp_gt (tgt := 62) hx hb dX4_readOne_51 (by decide) (fun c5 => ?_) (fun c5 => ?_)
        · replace hM := (if_pos c5).symm.trans hM
          exact wX4_readOne_62 X rec hrec  S h0 p1 (gI S d2 2) _ _ _ hM hk0 hP hS (lv_sub hl [1, 2, 0] rfl)
        · replace hM := (if_neg c5).symm.trans hM
          refine lv_aload_n hx hb dX4_readOne_54 rfl (lv_at hl 1 rfl) ?_
          refine lv_iload_n hx hb dX4_readOne_55 rfl (lv_at hl 0 rfl) ?_
          obtain ⟨S6, eS6, hM⟩ := xb hM
          refine x_gov (x_runV (rest := []) X (kX4_readName l G S h0 (gI S d2 2) S6 hk0 eS6) qw150 okX4_readName ⟨by simp only [xr]; omega, by simp only [xr]; omega⟩ hk0 (by decide) rfl hP hS rfl hl.1 rfl (Nat.le_of_ble_eq_true rfl) dX4_readOne_56) hS (fun H locs hP hS => ?_)
          refine lv_goto (tgt := 151) hx hb dX4_readOne_59 (by decide) ?_
          exact x_vret X hP hS hM dX4_readOne_151
    · replace hM := (if_pos c3).symm.trans hM
      refine lv_aload_n hx hb dX4_readOne_21 rfl (lv_at hl 1 rfl) ?_
      obtain ⟨d7, ed7, hM⟩ := xb hM
      refine fdX4_1 X hP hk0 qw139 dX4_readOne_22 ed7 ?_
      refine lv_iconst (v := 0) hx hb dX4_readOne_25 (by decide) ?_
      refine lv_aload_n hx hb dX4_readOne_26 rfl (lv_at hl 1 rfl) ?_
      refine lv_iconst (v := 0) hx hb dX4_readOne_27 (by decide) ?_
      refine lv_sipush (v := 9999) hx hb dX4_readOne_28 (by decide) ?_
      obtain ⟨q8, eq8, hM⟩ := xb hM
      refine x_goi (x_runV (rest := [.int 0, .ref (xad G d7)]) X (kX4_takeNumber l G S h0 0 9999 q8.1 q8.2 hk0 eq8) qw151 okX4_takeNumber ⟨by simp only [xr]; omega, by simp only [xr]; omega⟩ hk0 (by decide) rfl hP hS rfl hl.1 rfl (Nat.le_of_ble_eq_true rfl) dX4_readOne_31) hS (fun H locs hP hS => ?_)
      obtain ⟨S9, eS9, hM⟩ := xb hM
      refine x_gov (x_runV (rest := []) X (kX6_put l G q8.2 d7 0 q8.1 S9 (dO_k ed7) eS9) qw140 okX6_put ⟨by simp only [xr]; omega, by simp only [xr]; omega⟩ (dO_k ed7) (by decide) rfl hP hS rfl hl.1 rfl (Nat.le_of_ble_eq_true rfl) dX4_readOne_34) hS (fun H locs hP hS => ?_)
      refine lv_goto (tgt := 151) hx hb dX4_readOne_37 (by decide) ?_
      exact x_vret X hP hS hM dX4_readOne_151
  · replace hM := (if_neg c1).symm.trans hM
    exact x_vret X hP hS hM dX4_readOne_7

def jX4_readProduct_64 (rec : Nat → xS → Nat → Int32 → Option xS) (k7 : xS → Nat → Int32 → Int32 → Option xS) (S : xS) (h0 : Nat) (v1 : Int32) (v2 : Int32) (t0 : Int32) : Option xS := (dO Yc (gR S h0 0) 7).bind fun d1 => (mX7_advance S d1).bind fun S2 => (rec 2 S2 h0 v1).bind fun S3 => (dO Yc (gR S3 h0 1) 6).bind fun d4 => (mX6_put S3 d4 t0 0).bind fun S5 => k7 S5 h0 v1 (v2 + 1)
set_option maxHeartbeats 4000000 in
set_option maxRecDepth 100000 in
theorem wX4_readProduct_64 {p : Program} {l : Launch} {e : Env} {s : State} {m : MethodId} {args : Array Value} {below : List Frame} {meth : Method} {c : Code} {G : xG} {S' : xS} (X : xX p s m args meth c cX4_readProduct 4 none RX4 G Yc) (rec : Nat → xS → Nat → Int32 → Option xS) {nn : Nat} (hrec : xHR l G rec (nn + 30) (40 * nn + 1500)) (k7 : xS → Nat → Int32 → Int32 → Option xS) (hh7 : ∀ (S : xS) (h0 : Nat) (v1 : Int32) (v2 : Int32) (H : Heap) (locs : List Loc) (ls : Array Slot), k7 S h0 v1 v2 = some S' → xk Yc h0 = 4 → xP G Yc S H → va_S (xA G Yc) s.heap H locs → lv_has ls 4 [(0, .ref (xad G h0)), (1, .int v1), (2, .int v2)] → W p l e (xr (nn + 1 + 30) (40 * (nn + 1) + 1500)) s m args below meth c H locs 0 0 (MQ below (xQv G Yc S') args s 0 0 (xA G Yc)) (F0 m 7 ls [])) : ∀ (S : xS) (h0 : Nat) (v1 : Int32) (v2 : Int32) (t0 : Int32) (H : Heap) (locs : List Loc) (ls : Array Slot), jX4_readProduct_64 rec k7 S h0 v1 v2 t0 = some S' → xk Yc h0 = 4 → xP G Yc S H → va_S (xA G Yc) s.heap H locs → lv_has ls 4 [(0, .ref (xad G h0)), (1, .int v1), (2, .int v2)] → W p l e (xr (nn + 1 + 30) (40 * (nn + 1) + 1500)) s m args below meth c H locs 0 0 (MQ below (xQv G Yc S') args s 0 0 (xA G Yc)) (F0 m 64 ls [.int t0]) := by
  obtain ⟨hx, hb, hml, hown, hts, hr, hlk, hK, hE, hJ⟩ := id X
  intro S h0 v1 v2 t0 H locs ls hM hk0 hP hS hl
  unfold jX4_readProduct_64 at hM
  refine lv_istore_n (lv' := [(3, .int t0), (0, .ref (xad G h0)), (1, .int v1), (2, .int v2)]) hx hb dX4_readProduct_64 rfl hl (by decide) rfl (fun ls hl => ?_)
  refine lv_aload_n hx hb dX4_readProduct_65 rfl (lv_at hl 1 rfl) ?_
  obtain ⟨d1, ed1, hM⟩ := xb hM
  refine fdX4_0 X hP hk0 qw129 dX4_readProduct_66 ed1 ?_
  obtain ⟨S2, eS2, hM⟩ := xb hM
  refine x_gov (x_runV (rest := []) X (kX7_advance l G S d1 S2 (dO_k ed1) eS2) qw134 okX7_advance ⟨by simp only [xr]; omega, by simp only [xr]; omega⟩ (dO_k ed1) (by decide) rfl hP hS rfl hl.1 rfl (Nat.le_of_ble_eq_true rfl) dX4_readProduct_69) hS (fun H locs hP hS => ?_)
  refine lv_aload_n hx hb dX4_readProduct_72 rfl (lv_at hl 1 rfl) ?_
  refine lv_iload_n hx hb dX4_readProduct_73 rfl (lv_at hl 2 rfl) ?_
  obtain ⟨S3, eS3, hM⟩ := xb hM
  refine x_gov (x_runV (rest := []) X (hrec.2.2.1 S2 h0 v1 S3 hk0 eS3) qw153 okX4_readOne ⟨by simp only [xr]; omega, by simp only [xr]; omega⟩ hk0 (by decide) rfl hP hS rfl hl.1 rfl (Nat.le_of_ble_eq_true rfl) dX4_readProduct_74) hS (fun H locs hP hS => ?_)
  refine lv_aload_n hx hb dX4_readProduct_77 rfl (lv_at hl 1 rfl) ?_
  obtain ⟨d4, ed4, hM⟩ := xb hM
  refine fdX4_1 X hP hk0 qw139 dX4_readProduct_78 ed4 ?_
  refine lv_iload_n hx hb dX4_readProduct_81 rfl (lv_at hl 0 rfl) ?_
  refine lv_iconst (v := 0) hx hb dX4_readProduct_82 (by decide) ?_
  obtain ⟨S5, eS5, hM⟩ := xb hM
  refine x_gov (x_runV (rest := []) X (kX6_put l G S3 d4 t0 0 S5 (dO_k ed4) eS5) qw140 okX6_put ⟨by simp only [xr]; omega, by simp only [xr]; omega⟩ (dO_k ed4) (by decide) rfl hP hS rfl hl.1 rfl (Nat.le_of_ble_eq_true rfl) dX4_readProduct_83) hS (fun H locs hP hS => ?_)
  refine lv_iinc (v := v2 + 1) (lv' := [(2, .int (v2 + 1)), (3, .int t0), (0, .ref (xad G h0)), (1, .int v1)]) hx hb dX4_readProduct_86 hl (k := 3) rfl (by first | rfl | exact congrArg (fun z => v2 + z) (by decide)) (by decide) rfl (fun ls hl => ?_)
  refine lv_goto (tgt := 7) hx hb dX4_readProduct_89 (by decide) ?_
  exact hh7 S5 h0 v1 (v2 + 1) _ _ _ hM hk0 hP hS (lv_sub hl [2, 3, 0] rfl)
def jX4_readProduct_45 (rec : Nat → xS → Nat → Int32 → Option xS) (k7 : xS → Nat → Int32 → Int32 → Option xS) (S : xS) (h0 : Nat) (v1 : Int32) (v2 : Int32) : Option xS := (dO Yc (gR S h0 0) 7).bind fun d1 => if ((gI S d1 2) = 42 : Prop) then (jX4_readProduct_64 rec k7 S h0 v1 v2 8) else (jX4_readProduct_64 rec k7 S h0 v1 v2 9)
set_option maxHeartbeats 4000000 in
set_option maxRecDepth 100000 in
theorem wX4_readProduct_45 {p : Program} {l : Launch} {e : Env} {s : State} {m : MethodId} {args : Array Value} {below : List Frame} {meth : Method} {c : Code} {G : xG} {S' : xS} (X : xX p s m args meth c cX4_readProduct 4 none RX4 G Yc) (rec : Nat → xS → Nat → Int32 → Option xS) {nn : Nat} (hrec : xHR l G rec (nn + 30) (40 * nn + 1500)) (k7 : xS → Nat → Int32 → Int32 → Option xS) (hh7 : ∀ (S : xS) (h0 : Nat) (v1 : Int32) (v2 : Int32) (H : Heap) (locs : List Loc) (ls : Array Slot), k7 S h0 v1 v2 = some S' → xk Yc h0 = 4 → xP G Yc S H → va_S (xA G Yc) s.heap H locs → lv_has ls 4 [(0, .ref (xad G h0)), (1, .int v1), (2, .int v2)] → W p l e (xr (nn + 1 + 30) (40 * (nn + 1) + 1500)) s m args below meth c H locs 0 0 (MQ below (xQv G Yc S') args s 0 0 (xA G Yc)) (F0 m 7 ls [])) : ∀ (S : xS) (h0 : Nat) (v1 : Int32) (v2 : Int32) (H : Heap) (locs : List Loc) (ls : Array Slot), jX4_readProduct_45 rec k7 S h0 v1 v2 = some S' → xk Yc h0 = 4 → xP G Yc S H → va_S (xA G Yc) s.heap H locs → lv_has ls 4 [(0, .ref (xad G h0)), (1, .int v1), (2, .int v2)] → W p l e (xr (nn + 1 + 30) (40 * (nn + 1) + 1500)) s m args below meth c H locs 0 0 (MQ below (xQv G Yc S') args s 0 0 (xA G Yc)) (F0 m 45 ls []) := by
  obtain ⟨hx, hb, hml, hown, hts, hr, hlk, hK, hE, hJ⟩ := id X
  intro S h0 v1 v2 H locs ls hM hk0 hP hS hl
  unfold jX4_readProduct_45 at hM
  refine lv_aload_n hx hb dX4_readProduct_45 rfl (lv_at hl 0 rfl) ?_
  obtain ⟨d1, ed1, hM⟩ := xb hM
  refine fdX4_0 X hP hk0 qw129 dX4_readProduct_46 ed1 ?_
  refine fgX7_2 X hP (dO_k ed1) qw133 dX4_readProduct_49 ?_
  refine lv_bipush (v := 42) hx hb dX4_readProduct_52 (by decide) ?_
  refine lv_icmp_ne (tgt := 62) hx hb dX4_readProduct_54 (by decide) (fun c2 => ?_) (fun c2 => ?_)
  · replace hM := (if_neg c2).symm.trans hM
    refine lv_bipush (v := 9) hx hb dX4_readProduct_62 (by decide) ?_
    exact wX4_readProduct_64 X rec hrec k7 hh7 S h0 v1 v2 9 _ _ _ hM hk0 hP hS (lv_sub hl [0, 1, 2] rfl)
  · replace hM := (if_pos c2).symm.trans hM
    refine lv_bipush (v := 8) hx hb dX4_readProduct_57 (by decide) ?_
    refine lv_goto (tgt := 64) hx hb dX4_readProduct_59 (by decide) ?_
    exact wX4_readProduct_64 X rec hrec k7 hh7 S h0 v1 v2 8 _ _ _ hM hk0 hP hS (lv_sub hl [0, 1, 2] rfl)
def lX4_readProduct_7 (rec : Nat → xS → Nat → Int32 → Option xS) : Nat → xS → Nat → Int32 → Int32 → Option xS
  | 0, _, _, _, _ => none
  | n + 1, S, h0, v1, v2 => if (300 ≤ v2 : Prop) then (some S) else (if ((gI S h0 4) = 0 : Prop) then ((dO Yc (gR S h0 0) 7).bind fun d3 => if ((gI S d3 2) = 42 : Prop) then (jX4_readProduct_45 rec (lX4_readProduct_7 rec  n) S h0 v1 v2) else ((dO Yc (gR S h0 0) 7).bind fun d5 => if ((gI S d5 2) = 47 : Prop) then (jX4_readProduct_45 rec (lX4_readProduct_7 rec  n) S h0 v1 v2) else (some S))) else (some S))
set_option maxHeartbeats 4000000 in
set_option maxRecDepth 100000 in
theorem wX4_readProduct_7 {p : Program} {l : Launch} {e : Env} {s : State} {m : MethodId} {args : Array Value} {below : List Frame} {meth : Method} {c : Code} {G : xG} {S' : xS} (X : xX p s m args meth c cX4_readProduct 4 none RX4 G Yc) (rec : Nat → xS → Nat → Int32 → Option xS) {nn : Nat} (hrec : xHR l G rec (nn + 30) (40 * nn + 1500)) : ∀ (n : Nat), ∀ (S : xS) (h0 : Nat) (v1 : Int32) (v2 : Int32) (H : Heap) (locs : List Loc) (ls : Array Slot), lX4_readProduct_7 rec  n S h0 v1 v2 = some S' → xk Yc h0 = 4 → xP G Yc S H → va_S (xA G Yc) s.heap H locs → lv_has ls 4 [(0, .ref (xad G h0)), (1, .int v1), (2, .int v2)] → W p l e (xr (nn + 1 + 30) (40 * (nn + 1) + 1500)) s m args below meth c H locs 0 0 (MQ below (xQv G Yc S') args s 0 0 (xA G Yc)) (F0 m 7 ls []) := by
  obtain ⟨hx, hb, hml, hown, hts, hr, hlk, hK, hE, hJ⟩ := id X
  intro n
  induction n with
  | zero =>
    intro S h0 v1 v2 H locs ls hM
    rw [lX4_readProduct_7.eq_1] at hM
    cases hM
  | succ n ih =>
    intro S h0 v1 v2 H locs ls hM hk0 hP hS hl
    rw [lX4_readProduct_7.eq_2] at hM
    refine lv_iload_n hx hb dX4_readProduct_7 rfl (lv_at hl 2 rfl) ?_
    refine lv_sipush (v := 300) hx hb dX4_readProduct_8 (by decide) ?_
    refine lv_icmp_ge (tgt := 92) hx hb dX4_readProduct_11 (by decide) (fun c1 => ?_) (fun c1 => ?_)
    · replace hM := (if_pos c1).symm.trans hM
      exact x_vret X hP hS hM dX4_readProduct_92
    · replace hM := (if_neg c1).symm.trans hM
      refine lv_aload_n hx hb dX4_readProduct_14 rfl (lv_at hl 0 rfl) ?_
      refine fgX4_4 X hP hk0 qw128 dX4_readProduct_15 ?_
      refine lv_if_ne (tgt := 92) hx hb dX4_readProduct_18 (by decide) (fun c2 => ?_) (fun c2 => ?_)
      · replace hM := (if_neg c2).symm.trans hM
        exact x_vret X hP hS hM dX4_readProduct_92
      · replace hM := (if_pos c2).symm.trans hM
        refine lv_aload_n hx hb dX4_readProduct_21 rfl (lv_at hl 0 rfl) ?_
        obtain ⟨d3, ed3, hM⟩ := xb hM
        refine fdX4_0 X hP hk0 qw129 dX4_readProduct_22 ed3 ?_
        refine fgX7_2 X hP (dO_k ed3) qw133 dX4_readProduct_25 ?_
        refine lv_bipush (v := 42) hx hb dX4_readProduct_28 (by decide) ?_
        refine lv_icmp_eq (tgt := 45) hx hb dX4_readProduct_30 (by decide) (fun c4 => ?_) (fun c4 => ?_)
        · replace hM := (if_pos c4).symm.trans hM
          exact wX4_readProduct_45 X rec hrec (lX4_readProduct_7 rec  n) ih S h0 v1 v2 _ _ _ hM hk0 hP hS (lv_sub hl [0, 1, 2] rfl)
        · replace hM := (if_neg c4).symm.trans hM
          refine lv_aload_n hx hb dX4_readProduct_33 rfl (lv_at hl 0 rfl) ?_
          obtain ⟨d5, ed5, hM⟩ := xb hM
          refine fdX4_0 X hP hk0 qw129 dX4_readProduct_34 ed5 ?_
          refine fgX7_2 X hP (dO_k ed5) qw133 dX4_readProduct_37 ?_
          refine lv_bipush (v := 47) hx hb dX4_readProduct_40 (by decide) ?_
          refine lv_icmp_ne (tgt := 92) hx hb dX4_readProduct_42 (by decide) (fun c6 => ?_) (fun c6 => ?_)
          · replace hM := (if_neg c6).symm.trans hM
            exact x_vret X hP hS hM dX4_readProduct_92
          · replace hM := (if_pos c6).symm.trans hM
            exact wX4_readProduct_45 X rec hrec (lX4_readProduct_7 rec  n) ih S h0 v1 v2 _ _ _ hM hk0 hP hS (lv_sub hl [0, 1, 2] rfl)
def oX4_readProduct (rec : Nat → xS → Nat → Int32 → Option xS) (S : xS) (h0 : Nat) (p1 : Int32) : Option xS := (rec 2 S h0 p1).bind fun S1 => lX4_readProduct_7 rec  5000 S1 h0 p1 0
set_option maxHeartbeats 4000000 in
set_option maxRecDepth 100000 in
theorem koX4_readProduct (l : Launch) (G : xG) (rec : Nat → xS → Nat → Int32 → Option xS) {nn : Nat} (hrec : xHR l G rec (nn + 30) (40 * nn + 1500)) (S : xS) (h0 : Nat) (p1 : Int32) (S' : xS) (hk0 : xk Yc h0 = 4) (hM : oX4_readProduct rec S h0 p1 = some S') : xM l yX4_readProduct cX4_readProduct 4 none (nn + 1 + 30) (40 * (nn + 1) + 1500) G Yc [.ref (xad G h0), .int p1] S (xQv G Yc S') := by
  refine x_start (own := RX4) (by decide +kernel) rfl (Nat.le_of_ble_eq_true rfl) ?_
  intro p e s m below meth c ls X hl hP hS
  obtain ⟨hx, hb, hml, hown, hts, hr, hlk, hK, hE, hJ⟩ := id X
  have hl : lv_has ls 4 [(0, .ref (xad G h0)), (1, .int p1)] := hl
  unfold oX4_readProduct at hM
  refine lv_aload_n hx hb dX4_readProduct_0 rfl (lv_at hl 0 rfl) ?_
  refine lv_iload_n hx hb dX4_readProduct_1 rfl (lv_at hl 1 rfl) ?_
  obtain ⟨S1, eS1, hM⟩ := xb hM
  refine x_gov (x_runV (rest := []) X (hrec.2.2.1 S h0 p1 S1 hk0 eS1) qw153 okX4_readOne ⟨by simp only [xr]; omega, by simp only [xr]; omega⟩ hk0 (by decide) rfl hP hS rfl hl.1 rfl (Nat.le_of_ble_eq_true rfl) dX4_readProduct_2) hS (fun H locs hP hS => ?_)
  refine lv_iconst (v := 0) hx hb dX4_readProduct_5 (by decide) ?_
  refine lv_istore_n (lv' := [(2, .int 0), (0, .ref (xad G h0)), (1, .int p1)]) hx hb dX4_readProduct_6 rfl hl (by decide) rfl (fun ls hl => ?_)
  exact wX4_readProduct_7 X rec hrec  5000 S1 h0 p1 0 _ _ _ hM hk0 hP hS (lv_sub hl [1, 2, 0] rfl)

def jX4_readSum_64 (rec : Nat → xS → Nat → Int32 → Option xS) (k7 : xS → Nat → Int32 → Int32 → Option xS) (S : xS) (h0 : Nat) (v1 : Int32) (v2 : Int32) (t0 : Int32) : Option xS := (dO Yc (gR S h0 0) 7).bind fun d1 => (mX7_advance S d1).bind fun S2 => (rec 1 S2 h0 v1).bind fun S3 => (dO Yc (gR S3 h0 1) 6).bind fun d4 => (mX6_put S3 d4 t0 0).bind fun S5 => k7 S5 h0 v1 (v2 + 1)
set_option maxHeartbeats 4000000 in
set_option maxRecDepth 100000 in
theorem wX4_readSum_64 {p : Program} {l : Launch} {e : Env} {s : State} {m : MethodId} {args : Array Value} {below : List Frame} {meth : Method} {c : Code} {G : xG} {S' : xS} (X : xX p s m args meth c cX4_readSum 4 none RX4 G Yc) (rec : Nat → xS → Nat → Int32 → Option xS) {nn : Nat} (hrec : xHR l G rec (nn + 30) (40 * nn + 1500)) (k7 : xS → Nat → Int32 → Int32 → Option xS) (hh7 : ∀ (S : xS) (h0 : Nat) (v1 : Int32) (v2 : Int32) (H : Heap) (locs : List Loc) (ls : Array Slot), k7 S h0 v1 v2 = some S' → xk Yc h0 = 4 → xP G Yc S H → va_S (xA G Yc) s.heap H locs → lv_has ls 4 [(0, .ref (xad G h0)), (1, .int v1), (2, .int v2)] → W p l e (xr (nn + 1 + 30) (40 * (nn + 1) + 1500)) s m args below meth c H locs 0 0 (MQ below (xQv G Yc S') args s 0 0 (xA G Yc)) (F0 m 7 ls [])) : ∀ (S : xS) (h0 : Nat) (v1 : Int32) (v2 : Int32) (t0 : Int32) (H : Heap) (locs : List Loc) (ls : Array Slot), jX4_readSum_64 rec k7 S h0 v1 v2 t0 = some S' → xk Yc h0 = 4 → xP G Yc S H → va_S (xA G Yc) s.heap H locs → lv_has ls 4 [(0, .ref (xad G h0)), (1, .int v1), (2, .int v2)] → W p l e (xr (nn + 1 + 30) (40 * (nn + 1) + 1500)) s m args below meth c H locs 0 0 (MQ below (xQv G Yc S') args s 0 0 (xA G Yc)) (F0 m 64 ls [.int t0]) := by
  obtain ⟨hx, hb, hml, hown, hts, hr, hlk, hK, hE, hJ⟩ := id X
  intro S h0 v1 v2 t0 H locs ls hM hk0 hP hS hl
  unfold jX4_readSum_64 at hM
  refine lv_istore_n (lv' := [(3, .int t0), (0, .ref (xad G h0)), (1, .int v1), (2, .int v2)]) hx hb dX4_readSum_64 rfl hl (by decide) rfl (fun ls hl => ?_)
  refine lv_aload_n hx hb dX4_readSum_65 rfl (lv_at hl 1 rfl) ?_
  obtain ⟨d1, ed1, hM⟩ := xb hM
  refine fdX4_0 X hP hk0 qw129 dX4_readSum_66 ed1 ?_
  obtain ⟨S2, eS2, hM⟩ := xb hM
  refine x_gov (x_runV (rest := []) X (kX7_advance l G S d1 S2 (dO_k ed1) eS2) qw134 okX7_advance ⟨by simp only [xr]; omega, by simp only [xr]; omega⟩ (dO_k ed1) (by decide) rfl hP hS rfl hl.1 rfl (Nat.le_of_ble_eq_true rfl) dX4_readSum_69) hS (fun H locs hP hS => ?_)
  refine lv_aload_n hx hb dX4_readSum_72 rfl (lv_at hl 1 rfl) ?_
  refine lv_iload_n hx hb dX4_readSum_73 rfl (lv_at hl 2 rfl) ?_
  obtain ⟨S3, eS3, hM⟩ := xb hM
  refine x_gov (x_runV (rest := []) X (hrec.2.1 S2 h0 v1 S3 hk0 eS3) qw154 okX4_readProduct ⟨by simp only [xr]; omega, by simp only [xr]; omega⟩ hk0 (by decide) rfl hP hS rfl hl.1 rfl (Nat.le_of_ble_eq_true rfl) dX4_readSum_74) hS (fun H locs hP hS => ?_)
  refine lv_aload_n hx hb dX4_readSum_77 rfl (lv_at hl 1 rfl) ?_
  obtain ⟨d4, ed4, hM⟩ := xb hM
  refine fdX4_1 X hP hk0 qw139 dX4_readSum_78 ed4 ?_
  refine lv_iload_n hx hb dX4_readSum_81 rfl (lv_at hl 0 rfl) ?_
  refine lv_iconst (v := 0) hx hb dX4_readSum_82 (by decide) ?_
  obtain ⟨S5, eS5, hM⟩ := xb hM
  refine x_gov (x_runV (rest := []) X (kX6_put l G S3 d4 t0 0 S5 (dO_k ed4) eS5) qw140 okX6_put ⟨by simp only [xr]; omega, by simp only [xr]; omega⟩ (dO_k ed4) (by decide) rfl hP hS rfl hl.1 rfl (Nat.le_of_ble_eq_true rfl) dX4_readSum_83) hS (fun H locs hP hS => ?_)
  refine lv_iinc (v := v2 + 1) (lv' := [(2, .int (v2 + 1)), (3, .int t0), (0, .ref (xad G h0)), (1, .int v1)]) hx hb dX4_readSum_86 hl (k := 3) rfl (by first | rfl | exact congrArg (fun z => v2 + z) (by decide)) (by decide) rfl (fun ls hl => ?_)
  refine lv_goto (tgt := 7) hx hb dX4_readSum_89 (by decide) ?_
  exact hh7 S5 h0 v1 (v2 + 1) _ _ _ hM hk0 hP hS (lv_sub hl [2, 3, 0] rfl)
def jX4_readSum_45 (rec : Nat → xS → Nat → Int32 → Option xS) (k7 : xS → Nat → Int32 → Int32 → Option xS) (S : xS) (h0 : Nat) (v1 : Int32) (v2 : Int32) : Option xS := (dO Yc (gR S h0 0) 7).bind fun d1 => if ((gI S d1 2) = 43 : Prop) then (jX4_readSum_64 rec k7 S h0 v1 v2 6) else (jX4_readSum_64 rec k7 S h0 v1 v2 7)
set_option maxHeartbeats 4000000 in
set_option maxRecDepth 100000 in
theorem wX4_readSum_45 {p : Program} {l : Launch} {e : Env} {s : State} {m : MethodId} {args : Array Value} {below : List Frame} {meth : Method} {c : Code} {G : xG} {S' : xS} (X : xX p s m args meth c cX4_readSum 4 none RX4 G Yc) (rec : Nat → xS → Nat → Int32 → Option xS) {nn : Nat} (hrec : xHR l G rec (nn + 30) (40 * nn + 1500)) (k7 : xS → Nat → Int32 → Int32 → Option xS) (hh7 : ∀ (S : xS) (h0 : Nat) (v1 : Int32) (v2 : Int32) (H : Heap) (locs : List Loc) (ls : Array Slot), k7 S h0 v1 v2 = some S' → xk Yc h0 = 4 → xP G Yc S H → va_S (xA G Yc) s.heap H locs → lv_has ls 4 [(0, .ref (xad G h0)), (1, .int v1), (2, .int v2)] → W p l e (xr (nn + 1 + 30) (40 * (nn + 1) + 1500)) s m args below meth c H locs 0 0 (MQ below (xQv G Yc S') args s 0 0 (xA G Yc)) (F0 m 7 ls [])) : ∀ (S : xS) (h0 : Nat) (v1 : Int32) (v2 : Int32) (H : Heap) (locs : List Loc) (ls : Array Slot), jX4_readSum_45 rec k7 S h0 v1 v2 = some S' → xk Yc h0 = 4 → xP G Yc S H → va_S (xA G Yc) s.heap H locs → lv_has ls 4 [(0, .ref (xad G h0)), (1, .int v1), (2, .int v2)] → W p l e (xr (nn + 1 + 30) (40 * (nn + 1) + 1500)) s m args below meth c H locs 0 0 (MQ below (xQv G Yc S') args s 0 0 (xA G Yc)) (F0 m 45 ls []) := by
  obtain ⟨hx, hb, hml, hown, hts, hr, hlk, hK, hE, hJ⟩ := id X
  intro S h0 v1 v2 H locs ls hM hk0 hP hS hl
  unfold jX4_readSum_45 at hM
  refine lv_aload_n hx hb dX4_readSum_45 rfl (lv_at hl 0 rfl) ?_
  obtain ⟨d1, ed1, hM⟩ := xb hM
  refine fdX4_0 X hP hk0 qw129 dX4_readSum_46 ed1 ?_
  refine fgX7_2 X hP (dO_k ed1) qw133 dX4_readSum_49 ?_
  refine lv_bipush (v := 43) hx hb dX4_readSum_52 (by decide) ?_
  refine lv_icmp_ne (tgt := 62) hx hb dX4_readSum_54 (by decide) (fun c2 => ?_) (fun c2 => ?_)
  · replace hM := (if_neg c2).symm.trans hM
    refine lv_bipush (v := 7) hx hb dX4_readSum_62 (by decide) ?_
    exact wX4_readSum_64 X rec hrec k7 hh7 S h0 v1 v2 7 _ _ _ hM hk0 hP hS (lv_sub hl [0, 1, 2] rfl)
  · replace hM := (if_pos c2).symm.trans hM
    refine lv_bipush (v := 6) hx hb dX4_readSum_57 (by decide) ?_
    refine lv_goto (tgt := 64) hx hb dX4_readSum_59 (by decide) ?_
    exact wX4_readSum_64 X rec hrec k7 hh7 S h0 v1 v2 6 _ _ _ hM hk0 hP hS (lv_sub hl [0, 1, 2] rfl)
def lX4_readSum_7 (rec : Nat → xS → Nat → Int32 → Option xS) : Nat → xS → Nat → Int32 → Int32 → Option xS
  | 0, _, _, _, _ => none
  | n + 1, S, h0, v1, v2 => if (300 ≤ v2 : Prop) then (some S) else (if ((gI S h0 4) = 0 : Prop) then ((dO Yc (gR S h0 0) 7).bind fun d3 => if ((gI S d3 2) = 43 : Prop) then (jX4_readSum_45 rec (lX4_readSum_7 rec  n) S h0 v1 v2) else ((dO Yc (gR S h0 0) 7).bind fun d5 => if ((gI S d5 2) = 45 : Prop) then (jX4_readSum_45 rec (lX4_readSum_7 rec  n) S h0 v1 v2) else (some S))) else (some S))
set_option maxHeartbeats 4000000 in
set_option maxRecDepth 100000 in
theorem wX4_readSum_7 {p : Program} {l : Launch} {e : Env} {s : State} {m : MethodId} {args : Array Value} {below : List Frame} {meth : Method} {c : Code} {G : xG} {S' : xS} (X : xX p s m args meth c cX4_readSum 4 none RX4 G Yc) (rec : Nat → xS → Nat → Int32 → Option xS) {nn : Nat} (hrec : xHR l G rec (nn + 30) (40 * nn + 1500)) : ∀ (n : Nat), ∀ (S : xS) (h0 : Nat) (v1 : Int32) (v2 : Int32) (H : Heap) (locs : List Loc) (ls : Array Slot), lX4_readSum_7 rec  n S h0 v1 v2 = some S' → xk Yc h0 = 4 → xP G Yc S H → va_S (xA G Yc) s.heap H locs → lv_has ls 4 [(0, .ref (xad G h0)), (1, .int v1), (2, .int v2)] → W p l e (xr (nn + 1 + 30) (40 * (nn + 1) + 1500)) s m args below meth c H locs 0 0 (MQ below (xQv G Yc S') args s 0 0 (xA G Yc)) (F0 m 7 ls []) := by
  obtain ⟨hx, hb, hml, hown, hts, hr, hlk, hK, hE, hJ⟩ := id X
  intro n
  induction n with
  | zero =>
    intro S h0 v1 v2 H locs ls hM
    rw [lX4_readSum_7.eq_1] at hM
    cases hM
  | succ n ih =>
    intro S h0 v1 v2 H locs ls hM hk0 hP hS hl
    rw [lX4_readSum_7.eq_2] at hM
    refine lv_iload_n hx hb dX4_readSum_7 rfl (lv_at hl 2 rfl) ?_
    refine lv_sipush (v := 300) hx hb dX4_readSum_8 (by decide) ?_
    refine lv_icmp_ge (tgt := 92) hx hb dX4_readSum_11 (by decide) (fun c1 => ?_) (fun c1 => ?_)
    · replace hM := (if_pos c1).symm.trans hM
      exact x_vret X hP hS hM dX4_readSum_92
    · replace hM := (if_neg c1).symm.trans hM
      refine lv_aload_n hx hb dX4_readSum_14 rfl (lv_at hl 0 rfl) ?_
      refine fgX4_4 X hP hk0 qw128 dX4_readSum_15 ?_
      refine lv_if_ne (tgt := 92) hx hb dX4_readSum_18 (by decide) (fun c2 => ?_) (fun c2 => ?_)
      · replace hM := (if_neg c2).symm.trans hM
        exact x_vret X hP hS hM dX4_readSum_92
      · replace hM := (if_pos c2).symm.trans hM
        refine lv_aload_n hx hb dX4_readSum_21 rfl (lv_at hl 0 rfl) ?_
        obtain ⟨d3, ed3, hM⟩ := xb hM
        refine fdX4_0 X hP hk0 qw129 dX4_readSum_22 ed3 ?_
        refine fgX7_2 X hP (dO_k ed3) qw133 dX4_readSum_25 ?_
        refine lv_bipush (v := 43) hx hb dX4_readSum_28 (by decide) ?_
        refine lv_icmp_eq (tgt := 45) hx hb dX4_readSum_30 (by decide) (fun c4 => ?_) (fun c4 => ?_)
        · replace hM := (if_pos c4).symm.trans hM
          exact wX4_readSum_45 X rec hrec (lX4_readSum_7 rec  n) ih S h0 v1 v2 _ _ _ hM hk0 hP hS (lv_sub hl [0, 1, 2] rfl)
        · replace hM := (if_neg c4).symm.trans hM
          refine lv_aload_n hx hb dX4_readSum_33 rfl (lv_at hl 0 rfl) ?_
          obtain ⟨d5, ed5, hM⟩ := xb hM
          refine fdX4_0 X hP hk0 qw129 dX4_readSum_34 ed5 ?_
          refine fgX7_2 X hP (dO_k ed5) qw133 dX4_readSum_37 ?_
          refine lv_bipush (v := 45) hx hb dX4_readSum_40 (by decide) ?_
          refine lv_icmp_ne (tgt := 92) hx hb dX4_readSum_42 (by decide) (fun c6 => ?_) (fun c6 => ?_)
          · replace hM := (if_neg c6).symm.trans hM
            exact x_vret X hP hS hM dX4_readSum_92
          · replace hM := (if_pos c6).symm.trans hM
            exact wX4_readSum_45 X rec hrec (lX4_readSum_7 rec  n) ih S h0 v1 v2 _ _ _ hM hk0 hP hS (lv_sub hl [0, 1, 2] rfl)
def oX4_readSum (rec : Nat → xS → Nat → Int32 → Option xS) (S : xS) (h0 : Nat) (p1 : Int32) : Option xS := (rec 1 S h0 p1).bind fun S1 => lX4_readSum_7 rec  5000 S1 h0 p1 0
set_option maxHeartbeats 4000000 in
set_option maxRecDepth 100000 in
theorem koX4_readSum (l : Launch) (G : xG) (rec : Nat → xS → Nat → Int32 → Option xS) {nn : Nat} (hrec : xHR l G rec (nn + 30) (40 * nn + 1500)) (S : xS) (h0 : Nat) (p1 : Int32) (S' : xS) (hk0 : xk Yc h0 = 4) (hM : oX4_readSum rec S h0 p1 = some S') : xM l yX4_readSum cX4_readSum 4 none (nn + 1 + 30) (40 * (nn + 1) + 1500) G Yc [.ref (xad G h0), .int p1] S (xQv G Yc S') := by
  refine x_start (own := RX4) (by decide +kernel) rfl (Nat.le_of_ble_eq_true rfl) ?_
  intro p e s m below meth c ls X hl hP hS
  obtain ⟨hx, hb, hml, hown, hts, hr, hlk, hK, hE, hJ⟩ := id X
  have hl : lv_has ls 4 [(0, .ref (xad G h0)), (1, .int p1)] := hl
  unfold oX4_readSum at hM
  refine lv_aload_n hx hb dX4_readSum_0 rfl (lv_at hl 0 rfl) ?_
  refine lv_iload_n hx hb dX4_readSum_1 rfl (lv_at hl 1 rfl) ?_
  obtain ⟨S1, eS1, hM⟩ := xb hM
  refine x_gov (x_runV (rest := []) X (hrec.2.1 S h0 p1 S1 hk0 eS1) qw154 okX4_readProduct ⟨by simp only [xr]; omega, by simp only [xr]; omega⟩ hk0 (by decide) rfl hP hS rfl hl.1 rfl (Nat.le_of_ble_eq_true rfl) dX4_readSum_2) hS (fun H locs hP hS => ?_)
  refine lv_iconst (v := 0) hx hb dX4_readSum_5 (by decide) ?_
  refine lv_istore_n (lv' := [(2, .int 0), (0, .ref (xad G h0)), (1, .int p1)]) hx hb dX4_readSum_6 rfl hl (by decide) rfl (fun ls hl => ?_)
  exact wX4_readSum_7 X rec hrec  5000 S1 h0 p1 0 _ _ _ hM hk0 hP hS (lv_sub hl [1, 2, 0] rfl)
def rX4 : Nat → Nat → xS → Nat → Int32 → Option xS
  | 0, _, _, _, _ => none
  | n + 1, t, S, h, v => if t = 0 then oX4_readSum (rX4 n) S h v else if t = 1 then oX4_readProduct (rX4 n) S h v else if t = 2 then oX4_readOne (rX4 n) S h v else if t = 3 then oX4_readIf (rX4 n) S h v else if t = 4 then oX4_readEither (rX4 n) S h v else if t = 5 then oX4_readBoth (rX4 n) S h v else if t = 6 then oX4_readAsk (rX4 n) S h v else none
theorem xrec (l : Launch) (G : xG) : ∀ n : Nat, xHR l G (rX4 n) (n + 30) (40 * n + 1500) := by
  intro n
  induction n with
  | zero => exact ⟨fun S h v S' hk hM => (by rw [rX4.eq_1] at hM; cases hM), fun S h v S' hk hM => (by rw [rX4.eq_1] at hM; cases hM), fun S h v S' hk hM => (by rw [rX4.eq_1] at hM; cases hM), fun S h v S' hk hM => (by rw [rX4.eq_1] at hM; cases hM), fun S h v S' hk hM => (by rw [rX4.eq_1] at hM; cases hM), fun S h v S' hk hM => (by rw [rX4.eq_1] at hM; cases hM), fun S h v S' hk hM => (by rw [rX4.eq_1] at hM; cases hM)⟩
  | succ n ih => exact ⟨fun S h v S' hk hM => koX4_readSum l G (rX4 n) ih S h v S' hk (by rw [rX4.eq_2] at hM; exact hM), fun S h v S' hk hM => koX4_readProduct l G (rX4 n) ih S h v S' hk (by rw [rX4.eq_2] at hM; exact hM), fun S h v S' hk hM => koX4_readOne l G (rX4 n) ih S h v S' hk (by rw [rX4.eq_2] at hM; exact hM), fun S h v S' hk hM => koX4_readIf l G (rX4 n) ih S h v S' hk (by rw [rX4.eq_2] at hM; exact hM), fun S h v S' hk hM => koX4_readEither l G (rX4 n) ih S h v S' hk (by rw [rX4.eq_2] at hM; exact hM), fun S h v S' hk hM => koX4_readBoth l G (rX4 n) ih S h v S' hk (by rw [rX4.eq_2] at hM; exact hM), fun S h v S' hk hM => koX4_readAsk l G (rX4 n) ih S h v S' hk (by rw [rX4.eq_2] at hM; exact hM)⟩

def mX6_addClause (S : xS) (h0 : Nat) (p1 : Int32) (p2 : Int32) (p3 : Int32) : Option xS := if ((gI S h0 10) < 0 : Prop) then (some S) else (if (24 ≤ (gI S h0 10) : Prop) then (some S) else ((dO Yc (gR S h0 7) 10).bind fun d3 => (sI Yc S d3 (gI S h0 10) p1).bind fun S4 => (dO Yc (gR S4 h0 8) 10).bind fun d5 => (sI Yc S4 d5 (gI S4 h0 10) p2).bind fun S6 => (dO Yc (gR S6 h0 9) 10).bind fun d7 => (sI Yc S6 d7 (gI S6 h0 10) p3).bind fun S8 => xlet (pI S8 h0 10 ((gI S8 h0 10) + 1)) fun S9 => some S9))
set_option maxHeartbeats 4000000 in
set_option maxRecDepth 100000 in
theorem kX6_addClause (l : Launch) (G : xG) (S : xS) (h0 : Nat) (p1 : Int32) (p2 : Int32) (p3 : Int32) (S' : xS) (hk0 : xk Yc h0 = 6) (hM : mX6_addClause S h0 p1 p2 p3 = some S') : xM l yX6_addClause cX6_addClause 4 none 0 0 G Yc [.ref (xad G h0), .int p1, .int p2, .int p3] S (xQv G Yc S') := by
  refine x_start (own := RX6) (by decide +kernel) rfl (Nat.le_of_ble_eq_true rfl) ?_
  intro p e s m below meth c ls X hl hP hS
  obtain ⟨hx, hb, hml, hown, hts, hr, hlk, hK, hE, hJ⟩ := id X
  have hl : lv_has ls 4 [(0, .ref (xad G h0)), (1, .int p1), (2, .int p2), (3, .int p3)] := hl
  unfold mX6_addClause at hM
  refine lv_aload_n hx hb dX6_addClause_0 rfl (lv_at hl 0 rfl) ?_
  refine fgX6_10 X hP hk0 qw108 dX6_addClause_1 ?_
  refine lv_if_lt (tgt := 56) hx hb dX6_addClause_4 (by decide) (fun c1 => ?_) (fun c1 => ?_)
  · replace hM := (if_pos c1).symm.trans hM
    exact x_vret X hP hS hM dX6_addClause_56
  · replace hM := (if_neg c1).symm.trans hM
    refine lv_aload_n hx hb dX6_addClause_7 rfl (lv_at hl 0 rfl) ?_
    refine fgX6_10 X hP hk0 qw108 dX6_addClause_8 ?_
    refine lv_bipush (v := 24) hx hb dX6_addClause_11 (by decide) ?_
    refine lv_icmp_ge (tgt := 56) hx hb dX6_addClause_13 (by decide) (fun c2 => ?_) (fun c2 => ?_)
    · replace hM := (if_pos c2).symm.trans hM
      exact x_vret X hP hS hM dX6_addClause_56
    · replace hM := (if_neg c2).symm.trans hM
      refine lv_aload_n hx hb dX6_addClause_16 rfl (lv_at hl 0 rfl) ?_
      obtain ⟨d3, ed3, hM⟩ := xb hM
      refine fdX6_7 X hP hk0 qw155 dX6_addClause_17 ed3 ?_
      refine lv_aload_n hx hb dX6_addClause_20 rfl (lv_at hl 0 rfl) ?_
      refine fgX6_10 X hP hk0 qw108 dX6_addClause_21 ?_
      refine lv_iload_n hx hb dX6_addClause_24 rfl (lv_at hl 1 rfl) ?_
      obtain ⟨S4, eS4, hM⟩ := xb hM
      refine x_iast X hP hS (dO_k ed3) eS4 dX6_addClause_25 (fun H locs hP hS => ?_)
      refine lv_aload_n hx hb dX6_addClause_26 rfl (lv_at hl 0 rfl) ?_
      obtain ⟨d5, ed5, hM⟩ := xb hM
      refine fdX6_8 X hP hk0 qw156 dX6_addClause_27 ed5 ?_
      refine lv_aload_n hx hb dX6_addClause_30 rfl (lv_at hl 0 rfl) ?_
      refine fgX6_10 X hP hk0 qw108 dX6_addClause_31 ?_
      refine lv_iload_n hx hb dX6_addClause_34 rfl (lv_at hl 2 rfl) ?_
      obtain ⟨S6, eS6, hM⟩ := xb hM
      refine x_iast X hP hS (dO_k ed5) eS6 dX6_addClause_35 (fun H locs hP hS => ?_)
      refine lv_aload_n hx hb dX6_addClause_36 rfl (lv_at hl 0 rfl) ?_
      obtain ⟨d7, ed7, hM⟩ := xb hM
      refine fdX6_9 X hP hk0 qw157 dX6_addClause_37 ed7 ?_
      refine lv_aload_n hx hb dX6_addClause_40 rfl (lv_at hl 0 rfl) ?_
      refine fgX6_10 X hP hk0 qw108 dX6_addClause_41 ?_
      refine lv_iload_n hx hb dX6_addClause_44 rfl (lv_at hl 3 rfl) ?_
      obtain ⟨S8, eS8, hM⟩ := xb hM
      refine x_iast X hP hS (dO_k ed7) eS8 dX6_addClause_45 (fun H locs hP hS => ?_)
      refine lv_aload_n hx hb dX6_addClause_46 rfl (lv_at hl 0 rfl) ?_
      refine lv_dup hx hb dX6_addClause_47 rfl ?_
      refine fgX6_10 X hP hk0 qw108 dX6_addClause_48 ?_
      refine lv_iconst (v := 1) hx hb dX6_addClause_51 (by decide) ?_
      refine lv_iadd hx hb dX6_addClause_52 ?_
      obtain ⟨S9, eS9, hM⟩ := xlet_ex hM
      refine fpX6_10 X hP hS hk0 qw108 dX6_addClause_53 eS9 (fun H locs hP hS => ?_)
      exact x_vret X hP hS hM dX6_addClause_56

def jX6_addLaw_36 (S : xS) (h0 : Nat) (v1 : Int32) : Option xS := (mX6_addClause S h0 v1 0 0).bind fun S1 => some S1
set_option maxHeartbeats 4000000 in
set_option maxRecDepth 100000 in
theorem wX6_addLaw_36 {p : Program} {l : Launch} {e : Env} {s : State} {m : MethodId} {args : Array Value} {below : List Frame} {meth : Method} {c : Code} {G : xG} {S' : xS} (X : xX p s m args meth c cX6_addLaw 3 none RX6 G Yc) : ∀ (S : xS) (h0 : Nat) (v1 : Int32) (H : Heap) (locs : List Loc) (ls : Array Slot), jX6_addLaw_36  S h0 v1 = some S' → xk Yc h0 = 6 → xP G Yc S H → va_S (xA G Yc) s.heap H locs → lv_has ls 3 [(0, .ref (xad G h0)), (1, .int v1)] → W p l e (xr 1 23) s m args below meth c H locs 0 0 (MQ below (xQv G Yc S') args s 0 0 (xA G Yc)) (F0 m 36 ls []) := by
  obtain ⟨hx, hb, hml, hown, hts, hr, hlk, hK, hE, hJ⟩ := id X
  intro S h0 v1 H locs ls hM hk0 hP hS hl
  unfold jX6_addLaw_36 at hM
  refine lv_aload_n hx hb dX6_addLaw_36 rfl (lv_at hl 0 rfl) ?_
  refine lv_iload_n hx hb dX6_addLaw_37 rfl (lv_at hl 1 rfl) ?_
  refine lv_iconst (v := 0) hx hb dX6_addLaw_38 (by decide) ?_
  refine lv_iconst (v := 0) hx hb dX6_addLaw_39 (by decide) ?_
  obtain ⟨S1, eS1, hM⟩ := xb hM
  refine x_gov (x_runV (rest := []) X (kX6_addClause l G S h0 v1 0 0 S1 hk0 eS1) qw158 okX6_addClause ⟨Nat.le_of_ble_eq_true rfl, Nat.le_of_ble_eq_true rfl⟩ hk0 (by decide) rfl hP hS rfl hl.1 rfl (Nat.le_of_ble_eq_true rfl) dX6_addLaw_40) hS (fun H locs hP hS => ?_)
  exact x_vret X hP hS hM dX6_addLaw_43
def mX6_addLaw (S : xS) (h0 : Nat) (p1 : Int32) (p2 : Int32) : Option xS := if (p1 = 201 : Prop) then (xlet (pI S h0 5 p2) fun S4 => xlet (pI S4 h0 6 (gI S4 h0 2)) fun S5 => jX6_addLaw_36  S5 h0 p1) else (xlet (pI S h0 3 p2) fun S2 => xlet (pI S2 h0 4 (gI S2 h0 2)) fun S3 => jX6_addLaw_36  S3 h0 p1)
set_option maxHeartbeats 4000000 in
set_option maxRecDepth 100000 in
theorem kX6_addLaw (l : Launch) (G : xG) (S : xS) (h0 : Nat) (p1 : Int32) (p2 : Int32) (S' : xS) (hk0 : xk Yc h0 = 6) (hM : mX6_addLaw S h0 p1 p2 = some S') : xM l yX6_addLaw cX6_addLaw 3 none 1 23 G Yc [.ref (xad G h0), .int p1, .int p2] S (xQv G Yc S') := by
  refine x_start (own := RX6) (by decide +kernel) rfl (Nat.le_of_ble_eq_true rfl) ?_
  intro p e s m below meth c ls X hl hP hS
  obtain ⟨hx, hb, hml, hown, hts, hr, hlk, hK, hE, hJ⟩ := id X
  have hl : lv_has ls 3 [(0, .ref (xad G h0)), (1, .int p1), (2, .int p2)] := hl
  unfold mX6_addLaw at hM
  refine lv_iload_n hx hb dX6_addLaw_0 rfl (lv_at hl 1 rfl) ?_
  refine lv_sipush (v := 201) hx hb dX6_addLaw_1 (by decide) ?_
  refine lv_icmp_ne (tgt := 23) hx hb dX6_addLaw_4 (by decide) (fun c1 => ?_) (fun c1 => ?_)
  · replace hM := (if_neg c1).symm.trans hM
    refine lv_aload_n hx hb dX6_addLaw_23 rfl (lv_at hl 0 rfl) ?_
    refine lv_iload_n hx hb dX6_addLaw_24 rfl (lv_at hl 2 rfl) ?_
    obtain ⟨S2, eS2, hM⟩ := xlet_ex hM
    refine fpX6_3 X hP hS hk0 qw23 dX6_addLaw_25 eS2 (fun H locs hP hS => ?_)
    refine lv_aload_n hx hb dX6_addLaw_28 rfl (lv_at hl 0 rfl) ?_
    refine lv_aload_n hx hb dX6_addLaw_29 rfl (lv_at hl 0 rfl) ?_
    refine fgX6_2 X hP hk0 qw107 dX6_addLaw_30 ?_
    obtain ⟨S3, eS3, hM⟩ := xlet_ex hM
    refine fpX6_4 X hP hS hk0 qw24 dX6_addLaw_33 eS3 (fun H locs hP hS => ?_)
    exact wX6_addLaw_36 X  S3 h0 p1 _ _ _ hM hk0 hP hS (lv_sub hl [0, 1] rfl)
  · replace hM := (if_pos c1).symm.trans hM
    refine lv_aload_n hx hb dX6_addLaw_7 rfl (lv_at hl 0 rfl) ?_
    refine lv_iload_n hx hb dX6_addLaw_8 rfl (lv_at hl 2 rfl) ?_
    obtain ⟨S4, eS4, hM⟩ := xlet_ex hM
    refine fpX6_5 X hP hS hk0 qw46 dX6_addLaw_9 eS4 (fun H locs hP hS => ?_)
    refine lv_aload_n hx hb dX6_addLaw_12 rfl (lv_at hl 0 rfl) ?_
    refine lv_aload_n hx hb dX6_addLaw_13 rfl (lv_at hl 0 rfl) ?_
    refine fgX6_2 X hP hk0 qw107 dX6_addLaw_14 ?_
    obtain ⟨S5, eS5, hM⟩ := xlet_ex hM
    refine fpX6_6 X hP hS hk0 qw47 dX6_addLaw_17 eS5 (fun H locs hP hS => ?_)
    refine lv_goto (tgt := 36) hx hb dX6_addLaw_20 (by decide) ?_
    exact wX6_addLaw_36 X  S5 h0 p1 _ _ _ hM hk0 hP hS (lv_sub hl [0, 1] rfl)

def jX4_readOrder_76 (S : xS) (h0 : Nat) (v1 : Int32) (v3 : Int32) (t0 : Int32) (t1 : Int32) (t2 : Nat) : Option xS := (mX4_takeNumber S t2 t1 t0).bind fun q1 => (dO Yc (gR q1.2 h0 1) 6).bind fun d2 => (mX6_addClause q1.2 d2 v1 v3 q1.1).bind fun S3 => some S3
set_option maxHeartbeats 4000000 in
set_option maxRecDepth 100000 in
theorem wX4_readOrder_76 {p : Program} {l : Launch} {e : Env} {s : State} {m : MethodId} {args : Array Value} {below : List Frame} {meth : Method} {c : Code} {G : xG} {S' : xS} (X : xX p s m args meth c cX4_readOrder 5 none RX4 G Yc) : ∀ (S : xS) (h0 : Nat) (v1 : Int32) (v3 : Int32) (t0 : Int32) (t1 : Int32) (t2 : Nat) (H : Heap) (locs : List Loc) (ls : Array Slot), jX4_readOrder_76  S h0 v1 v3 t0 t1 t2 = some S' → xk Yc h0 = 4 → xk Yc t2 = 4 → xP G Yc S H → va_S (xA G Yc) s.heap H locs → lv_has ls 5 [(0, .ref (xad G h0)), (1, .int v1), (3, .int v3)] → W p l e (xr 8 211) s m args below meth c H locs 0 0 (MQ below (xQv G Yc S') args s 0 0 (xA G Yc)) (F0 m 76 ls [.int t0, .int t1, .ref (xad G t2)]) := by
  obtain ⟨hx, hb, hml, hown, hts, hr, hlk, hK, hE, hJ⟩ := id X
  intro S h0 v1 v3 t0 t1 t2 H locs ls hM hk0 hkt2 hP hS hl
  unfold jX4_readOrder_76 at hM
  obtain ⟨q1, eq1, hM⟩ := xb hM
  refine x_goi (x_runV (rest := []) X (kX4_takeNumber l G S t2 t1 t0 q1.1 q1.2 hkt2 eq1) qw151 okX4_takeNumber ⟨Nat.le_of_ble_eq_true rfl, Nat.le_of_ble_eq_true rfl⟩ hkt2 (by decide) rfl hP hS rfl hl.1 rfl (Nat.le_of_ble_eq_true rfl) dX4_readOrder_76) hS (fun H locs hP hS => ?_)
  refine lv_istore (lv' := [(4, .int q1.1), (0, .ref (xad G h0)), (1, .int v1), (3, .int v3)]) hx hb dX4_readOrder_79 hl (by decide) rfl (fun ls hl => ?_)
  refine lv_aload_n hx hb dX4_readOrder_81 rfl (lv_at hl 1 rfl) ?_
  obtain ⟨d2, ed2, hM⟩ := xb hM
  refine fdX4_1 X hP hk0 qw139 dX4_readOrder_82 ed2 ?_
  refine lv_iload_n hx hb dX4_readOrder_85 rfl (lv_at hl 2 rfl) ?_
  refine lv_iload_n hx hb dX4_readOrder_86 rfl (lv_at hl 3 rfl) ?_
  refine lv_iload hx hb dX4_readOrder_87 (lv_at hl 0 rfl) ?_
  obtain ⟨S3, eS3, hM⟩ := xb hM
  refine x_gov (x_runV (rest := []) X (kX6_addClause l G q1.2 d2 v1 v3 q1.1 S3 (dO_k ed2) eS3) qw159 okX6_addClause ⟨Nat.le_of_ble_eq_true rfl, Nat.le_of_ble_eq_true rfl⟩ (dO_k ed2) (by decide) rfl hP hS rfl hl.1 rfl (Nat.le_of_ble_eq_true rfl) dX4_readOrder_89) hS (fun H locs hP hS => ?_)
  exact x_vret X hP hS hM dX4_readOrder_92
def jX4_readOrder_57 (S : xS) (h0 : Nat) (v1 : Int32) (v2 : Int32) (t0 : Int32) : Option xS := (mX4_take S h0 206).bind fun S1 => if (v2 = 0 : Prop) then (jX4_readOrder_76  S1 h0 v1 t0 1 0 h0) else (jX4_readOrder_76  S1 h0 v1 t0 2 0 h0)
set_option maxHeartbeats 4000000 in
set_option maxRecDepth 100000 in
theorem wX4_readOrder_57 {p : Program} {l : Launch} {e : Env} {s : State} {m : MethodId} {args : Array Value} {below : List Frame} {meth : Method} {c : Code} {G : xG} {S' : xS} (X : xX p s m args meth c cX4_readOrder 5 none RX4 G Yc) : ∀ (S : xS) (h0 : Nat) (v1 : Int32) (v2 : Int32) (t0 : Int32) (H : Heap) (locs : List Loc) (ls : Array Slot), jX4_readOrder_57  S h0 v1 v2 t0 = some S' → xk Yc h0 = 4 → xP G Yc S H → va_S (xA G Yc) s.heap H locs → lv_has ls 5 [(0, .ref (xad G h0)), (1, .int v1), (2, .int v2)] → W p l e (xr 8 211) s m args below meth c H locs 0 0 (MQ below (xQv G Yc S') args s 0 0 (xA G Yc)) (F0 m 57 ls [.int t0]) := by
  obtain ⟨hx, hb, hml, hown, hts, hr, hlk, hK, hE, hJ⟩ := id X
  intro S h0 v1 v2 t0 H locs ls hM hk0 hP hS hl
  unfold jX4_readOrder_57 at hM
  refine lv_istore_n (lv' := [(3, .int t0), (0, .ref (xad G h0)), (1, .int v1), (2, .int v2)]) hx hb dX4_readOrder_57 rfl hl (by decide) rfl (fun ls hl => ?_)
  refine lv_aload_n hx hb dX4_readOrder_58 rfl (lv_at hl 1 rfl) ?_
  refine lv_sipush (v := 206) hx hb dX4_readOrder_59 (by decide) ?_
  obtain ⟨S1, eS1, hM⟩ := xb hM
  refine x_gov (x_runV (rest := []) X (kX4_take l G S h0 206 S1 hk0 eS1) qw147 okX4_take ⟨Nat.le_of_ble_eq_true rfl, Nat.le_of_ble_eq_true rfl⟩ hk0 (by decide) rfl hP hS rfl hl.1 rfl (Nat.le_of_ble_eq_true rfl) dX4_readOrder_62) hS (fun H locs hP hS => ?_)
  refine lv_aload_n hx hb dX4_readOrder_65 rfl (lv_at hl 1 rfl) ?_
  refine lv_iconst (v := 0) hx hb dX4_readOrder_66 (by decide) ?_
  refine lv_iload_n hx hb dX4_readOrder_67 rfl (lv_at hl 3 rfl) ?_
  refine lv_if_eq (tgt := 75) hx hb dX4_readOrder_68 (by decide) (fun c2 => ?_) (fun c2 => ?_)
  · replace hM := (if_pos c2).symm.trans hM
    refine lv_iconst (v := 1) hx hb dX4_readOrder_75 (by decide) ?_
    exact wX4_readOrder_76 X  S1 h0 v1 t0 1 0 h0 _ _ _ hM hk0 hk0 hP hS (lv_sub hl [1, 2, 0] rfl)
  · replace hM := (if_neg c2).symm.trans hM
    refine lv_iconst (v := 2) hx hb dX4_readOrder_71 (by decide) ?_
    refine lv_goto (tgt := 76) hx hb dX4_readOrder_72 (by decide) ?_
    exact wX4_readOrder_76 X  S1 h0 v1 t0 2 0 h0 _ _ _ hM hk0 hk0 hP hS (lv_sub hl [1, 2, 0] rfl)
def jX4_readOrder_36 (S : xS) (h0 : Nat) (v1 : Int32) (t0 : Int32) : Option xS := if (t0 = 0 : Prop) then ((mX4_takeNumber S h0 1 9).bind fun q2 => jX4_readOrder_57  q2.2 h0 v1 t0 q2.1) else ((mX4_takeNumber S h0 0 5).bind fun q3 => jX4_readOrder_57  q3.2 h0 v1 t0 q3.1)
set_option maxHeartbeats 4000000 in
set_option maxRecDepth 100000 in
theorem wX4_readOrder_36 {p : Program} {l : Launch} {e : Env} {s : State} {m : MethodId} {args : Array Value} {below : List Frame} {meth : Method} {c : Code} {G : xG} {S' : xS} (X : xX p s m args meth c cX4_readOrder 5 none RX4 G Yc) : ∀ (S : xS) (h0 : Nat) (v1 : Int32) (t0 : Int32) (H : Heap) (locs : List Loc) (ls : Array Slot), jX4_readOrder_36  S h0 v1 t0 = some S' → xk Yc h0 = 4 → xP G Yc S H → va_S (xA G Yc) s.heap H locs → lv_has ls 5 [(0, .ref (xad G h0)), (1, .int v1)] → W p l e (xr 8 211) s m args below meth c H locs 0 0 (MQ below (xQv G Yc S') args s 0 0 (xA G Yc)) (F0 m 36 ls [.int t0]) := by
  obtain ⟨hx, hb, hml, hown, hts, hr, hlk, hK, hE, hJ⟩ := id X
  intro S h0 v1 t0 H locs ls hM hk0 hP hS hl
  unfold jX4_readOrder_36 at hM
  refine lv_istore_n (lv' := [(2, .int t0), (0, .ref (xad G h0)), (1, .int v1)]) hx hb dX4_readOrder_36 rfl hl (by decide) rfl (fun ls hl => ?_)
  refine lv_iload_n hx hb dX4_readOrder_37 rfl (lv_at hl 0 rfl) ?_
  refine lv_if_eq (tgt := 50) hx hb dX4_readOrder_38 (by decide) (fun c1 => ?_) (fun c1 => ?_)
  · replace hM := (if_pos c1).symm.trans hM
    refine lv_aload_n hx hb dX4_readOrder_50 rfl (lv_at hl 1 rfl) ?_
    refine lv_iconst (v := 1) hx hb dX4_readOrder_51 (by decide) ?_
    refine lv_bipush (v := 9) hx hb dX4_readOrder_52 (by decide) ?_
    obtain ⟨q2, eq2, hM⟩ := xb hM
    refine x_goi (x_runV (rest := []) X (kX4_takeNumber l G S h0 1 9 q2.1 q2.2 hk0 eq2) qw151 okX4_takeNumber ⟨Nat.le_of_ble_eq_true rfl, Nat.le_of_ble_eq_true rfl⟩ hk0 (by decide) rfl hP hS rfl hl.1 rfl (Nat.le_of_ble_eq_true rfl) dX4_readOrder_54) hS (fun H locs hP hS => ?_)
    exact wX4_readOrder_57 X  q2.2 h0 v1 t0 q2.1 _ _ _ hM hk0 hP hS (lv_sub hl [1, 2, 0] rfl)
  · replace hM := (if_neg c1).symm.trans hM
    refine lv_aload_n hx hb dX4_readOrder_41 rfl (lv_at hl 1 rfl) ?_
    refine lv_iconst (v := 0) hx hb dX4_readOrder_42 (by decide) ?_
    refine lv_iconst (v := 5) hx hb dX4_readOrder_43 (by decide) ?_
    obtain ⟨q3, eq3, hM⟩ := xb hM
    refine x_goi (x_runV (rest := []) X (kX4_takeNumber l G S h0 0 5 q3.1 q3.2 hk0 eq3) qw151 okX4_takeNumber ⟨Nat.le_of_ble_eq_true rfl, Nat.le_of_ble_eq_true rfl⟩ hk0 (by decide) rfl hP hS rfl hl.1 rfl (Nat.le_of_ble_eq_true rfl) dX4_readOrder_44) hS (fun H locs hP hS => ?_)
    refine lv_goto (tgt := 57) hx hb dX4_readOrder_47 (by decide) ?_
    exact wX4_readOrder_57 X  q3.2 h0 v1 t0 q3.1 _ _ _ hM hk0 hP hS (lv_sub hl [1, 2, 0] rfl)
def mX4_readOrder (S : xS) (h0 : Nat) (p1 : Int32) : Option xS := if (p1 = 205 : Prop) then ((dO Yc (gR S h0 1) 6).bind fun d3 => (mX4_takeNumber S h0 1 99).bind fun q4 => (mX6_addClause q4.2 d3 p1 q4.1 0).bind fun S5 => some S5) else (if (p1 = 202 : Prop) then (jX4_readOrder_36  S h0 p1 1) else (jX4_readOrder_36  S h0 p1 0))
set_option maxHeartbeats 4000000 in
set_option maxRecDepth 100000 in
theorem kX4_readOrder (l : Launch) (G : xG) (S : xS) (h0 : Nat) (p1 : Int32) (S' : xS) (hk0 : xk Yc h0 = 4) (hM : mX4_readOrder S h0 p1 = some S') : xM l yX4_readOrder cX4_readOrder 5 none 8 211 G Yc [.ref (xad G h0), .int p1] S (xQv G Yc S') := by
  refine x_start (own := RX4) (by decide +kernel) rfl (Nat.le_of_ble_eq_true rfl) ?_
  intro p e s m below meth c ls X hl hP hS
  obtain ⟨hx, hb, hml, hown, hts, hr, hlk, hK, hE, hJ⟩ := id X
  have hl : lv_has ls 5 [(0, .ref (xad G h0)), (1, .int p1)] := hl
  unfold mX4_readOrder at hM
  refine lv_iload_n hx hb dX4_readOrder_0 rfl (lv_at hl 1 rfl) ?_
  refine lv_sipush (v := 205) hx hb dX4_readOrder_1 (by decide) ?_
  refine lv_icmp_ne (tgt := 24) hx hb dX4_readOrder_4 (by decide) (fun c1 => ?_) (fun c1 => ?_)
  · replace hM := (if_neg c1).symm.trans hM
    refine lv_iload_n hx hb dX4_readOrder_24 rfl (lv_at hl 1 rfl) ?_
    refine lv_sipush (v := 202) hx hb dX4_readOrder_25 (by decide) ?_
    refine lv_icmp_ne (tgt := 35) hx hb dX4_readOrder_28 (by decide) (fun c2 => ?_) (fun c2 => ?_)
    · replace hM := (if_neg c2).symm.trans hM
      refine lv_iconst (v := 0) hx hb dX4_readOrder_35 (by decide) ?_
      exact wX4_readOrder_36 X  S h0 p1 0 _ _ _ hM hk0 hP hS (lv_sub hl [0, 1] rfl)
    · replace hM := (if_pos c2).symm.trans hM
      refine lv_iconst (v := 1) hx hb dX4_readOrder_31 (by decide) ?_
      refine lv_goto (tgt := 36) hx hb dX4_readOrder_32 (by decide) ?_
      exact wX4_readOrder_36 X  S h0 p1 1 _ _ _ hM hk0 hP hS (lv_sub hl [0, 1] rfl)
  · replace hM := (if_pos c1).symm.trans hM
    refine lv_aload_n hx hb dX4_readOrder_7 rfl (lv_at hl 0 rfl) ?_
    obtain ⟨d3, ed3, hM⟩ := xb hM
    refine fdX4_1 X hP hk0 qw139 dX4_readOrder_8 ed3 ?_
    refine lv_iload_n hx hb dX4_readOrder_11 rfl (lv_at hl 1 rfl) ?_
    refine lv_aload_n hx hb dX4_readOrder_12 rfl (lv_at hl 0 rfl) ?_
    refine lv_iconst (v := 1) hx hb dX4_readOrder_13 (by decide) ?_
    refine lv_bipush (v := 99) hx hb dX4_readOrder_14 (by decide) ?_
    obtain ⟨q4, eq4, hM⟩ := xb hM
    refine x_goi (x_runV (rest := [.int p1, .ref (xad G d3)]) X (kX4_takeNumber l G S h0 1 99 q4.1 q4.2 hk0 eq4) qw151 okX4_takeNumber ⟨Nat.le_of_ble_eq_true rfl, Nat.le_of_ble_eq_true rfl⟩ hk0 (by decide) rfl hP hS rfl hl.1 rfl (Nat.le_of_ble_eq_true rfl) dX4_readOrder_16) hS (fun H locs hP hS => ?_)
    refine lv_iconst (v := 0) hx hb dX4_readOrder_19 (by decide) ?_
    obtain ⟨S5, eS5, hM⟩ := xb hM
    refine x_gov (x_runV (rest := []) X (kX6_addClause l G q4.2 d3 p1 q4.1 0 S5 (dO_k ed3) eS5) qw159 okX6_addClause ⟨Nat.le_of_ble_eq_true rfl, Nat.le_of_ble_eq_true rfl⟩ (dO_k ed3) (by decide) rfl hP hS rfl hl.1 rfl (Nat.le_of_ble_eq_true rfl) dX4_readOrder_20) hS (fun H locs hP hS => ?_)
    exact x_vret X hP hS hM dX4_readOrder_23

def jX4_readClause_160 (S : xS) (h0 : Nat) : Option xS := (mX4_take S h0 59).bind fun S1 => some S1
set_option maxHeartbeats 4000000 in
set_option maxRecDepth 100000 in
theorem wX4_readClause_160 {p : Program} {l : Launch} {e : Env} {s : State} {m : MethodId} {args : Array Value} {below : List Frame} {meth : Method} {c : Code} {G : xG} {S' : xS} (X : xX p s m args meth c cX4_readClause 3 none RX4 G Yc) : ∀ (S : xS) (h0 : Nat) (H : Heap) (locs : List Loc) (ls : Array Slot), jX4_readClause_160  S h0 = some S' → xk Yc h0 = 4 → xP G Yc S H → va_S (xA G Yc) s.heap H locs → lv_has ls 3 [(0, .ref (xad G h0))] → W p l e (xr 131 5523) s m args below meth c H locs 0 0 (MQ below (xQv G Yc S') args s 0 0 (xA G Yc)) (F0 m 160 ls []) := by
  obtain ⟨hx, hb, hml, hown, hts, hr, hlk, hK, hE, hJ⟩ := id X
  intro S h0 H locs ls hM hk0 hP hS hl
  unfold jX4_readClause_160 at hM
  refine lv_aload_n hx hb dX4_readClause_160 rfl (lv_at hl 0 rfl) ?_
  refine lv_bipush (v := 59) hx hb dX4_readClause_161 (by decide) ?_
  obtain ⟨S1, eS1, hM⟩ := xb hM
  refine x_gov (x_runV (rest := []) X (kX4_take l G S h0 59 S1 hk0 eS1) qw147 okX4_take ⟨Nat.le_of_ble_eq_true rfl, Nat.le_of_ble_eq_true rfl⟩ hk0 (by decide) rfl hP hS rfl hl.1 rfl (Nat.le_of_ble_eq_true rfl) dX4_readClause_163) hS (fun H locs hP hS => ?_)
  exact x_vret X hP hS hM dX4_readClause_166
def jX4_readClause_135 (S : xS) (h0 : Nat) (v1 : Int32) (v2 : Int32) (t0 : Int32) (t1 : Nat) : Option xS := (zk t0).bind fun z2 => xlet (pI S t1 2 t0) fun S1 => (rX4 100 0 S1 h0 0).bind fun S3 => (dO Yc (gR S3 h0 1) 6).bind fun d4 => (mX6_addLaw S3 d4 v1 v2).bind fun S5 => jX4_readClause_160  S5 h0
set_option maxHeartbeats 4000000 in
set_option maxRecDepth 100000 in
theorem wX4_readClause_135 {p : Program} {l : Launch} {e : Env} {s : State} {m : MethodId} {args : Array Value} {below : List Frame} {meth : Method} {c : Code} {G : xG} {S' : xS} (X : xX p s m args meth c cX4_readClause 3 none RX4 G Yc) : ∀ (S : xS) (h0 : Nat) (v1 : Int32) (v2 : Int32) (t0 : Int32) (t1 : Nat) (H : Heap) (locs : List Loc) (ls : Array Slot), jX4_readClause_135  S h0 v1 v2 t0 t1 = some S' → xk Yc h0 = 4 → xk Yc t1 = 4 → xP G Yc S H → va_S (xA G Yc) s.heap H locs → lv_has ls 3 [(0, .ref (xad G h0)), (1, .int v1), (2, .int v2)] → W p l e (xr 131 5523) s m args below meth c H locs 0 0 (MQ below (xQv G Yc S') args s 0 0 (xA G Yc)) (F0 m 135 ls [.int t0, .ref (xad G t1)]) := by
  obtain ⟨hx, hb, hml, hown, hts, hr, hlk, hK, hE, hJ⟩ := id X
  intro S h0 v1 v2 t0 t1 H locs ls hM hk0 hkt1 hP hS hl
  unfold jX4_readClause_135 at hM
  obtain ⟨z2, ez2, hM⟩ := xb hM
  obtain ⟨S1, eS1, hM⟩ := xlet_ex hM
  refine fpX4_2 X hP hS (zk_v ez2).2 hkt1 qw138 dX4_readClause_135 eS1 (fun H locs hP hS => ?_)
  refine lv_aload_n hx hb dX4_readClause_138 rfl (lv_at hl 0 rfl) ?_
  refine lv_iconst (v := 0) hx hb dX4_readClause_139 (by decide) ?_
  obtain ⟨S3, eS3, hM⟩ := xb hM
  refine x_gov (x_runV (rest := []) X ((xrec l G 100).1 S1 h0 0 S3 hk0 eS3) qw141 okX4_readSum ⟨Nat.le_of_ble_eq_true rfl, Nat.le_of_ble_eq_true rfl⟩ hk0 (by decide) rfl hP hS rfl hl.1 rfl (Nat.le_of_ble_eq_true rfl) dX4_readClause_140) hS (fun H locs hP hS => ?_)
  refine lv_aload_n hx hb dX4_readClause_143 rfl (lv_at hl 0 rfl) ?_
  obtain ⟨d4, ed4, hM⟩ := xb hM
  refine fdX4_1 X hP hk0 qw139 dX4_readClause_144 ed4 ?_
  refine lv_iload_n hx hb dX4_readClause_147 rfl (lv_at hl 1 rfl) ?_
  refine lv_iload_n hx hb dX4_readClause_148 rfl (lv_at hl 2 rfl) ?_
  obtain ⟨S5, eS5, hM⟩ := xb hM
  refine x_gov (x_runV (rest := []) X (kX6_addLaw l G S3 d4 v1 v2 S5 (dO_k ed4) eS5) qw164 okX6_addLaw ⟨Nat.le_of_ble_eq_true rfl, Nat.le_of_ble_eq_true rfl⟩ (dO_k ed4) (by decide) rfl hP hS rfl hl.1 rfl (Nat.le_of_ble_eq_true rfl) dX4_readClause_149) hS (fun H locs hP hS => ?_)
  refine lv_goto (tgt := 160) hx hb dX4_readClause_152 (by decide) ?_
  exact wX4_readClause_160 X  S5 h0 _ _ _ hM hk0 hP hS (lv_sub hl [0] rfl)
def jX4_readClause_114 (S : xS) (h0 : Nat) (v1 : Int32) : Option xS := (dO Yc (gR S h0 1) 6).bind fun d1 => if (v1 = 201 : Prop) then (jX4_readClause_135  S h0 v1 (gI S d1 2) 1 h0) else (jX4_readClause_135  S h0 v1 (gI S d1 2) 0 h0)
set_option maxHeartbeats 4000000 in
set_option maxRecDepth 100000 in
theorem wX4_readClause_114 {p : Program} {l : Launch} {e : Env} {s : State} {m : MethodId} {args : Array Value} {below : List Frame} {meth : Method} {c : Code} {G : xG} {S' : xS} (X : xX p s m args meth c cX4_readClause 3 none RX4 G Yc) : ∀ (S : xS) (h0 : Nat) (v1 : Int32) (H : Heap) (locs : List Loc) (ls : Array Slot), jX4_readClause_114  S h0 v1 = some S' → xk Yc h0 = 4 → xP G Yc S H → va_S (xA G Yc) s.heap H locs → lv_has ls 3 [(0, .ref (xad G h0)), (1, .int v1)] → W p l e (xr 131 5523) s m args below meth c H locs 0 0 (MQ below (xQv G Yc S') args s 0 0 (xA G Yc)) (F0 m 114 ls []) := by
  obtain ⟨hx, hb, hml, hown, hts, hr, hlk, hK, hE, hJ⟩ := id X
  intro S h0 v1 H locs ls hM hk0 hP hS hl
  unfold jX4_readClause_114 at hM
  refine lv_aload_n hx hb dX4_readClause_114 rfl (lv_at hl 0 rfl) ?_
  obtain ⟨d1, ed1, hM⟩ := xb hM
  refine fdX4_1 X hP hk0 qw139 dX4_readClause_115 ed1 ?_
  refine fgX6_2 X hP (dO_k ed1) qw148 dX4_readClause_118 ?_
  refine lv_istore_n (lv' := [(2, .int (gI S d1 2)), (0, .ref (xad G h0)), (1, .int v1)]) hx hb dX4_readClause_121 rfl hl (by decide) rfl (fun ls hl => ?_)
  refine lv_aload_n hx hb dX4_readClause_122 rfl (lv_at hl 1 rfl) ?_
  refine lv_iload_n hx hb dX4_readClause_123 rfl (lv_at hl 2 rfl) ?_
  refine lv_sipush (v := 201) hx hb dX4_readClause_124 (by decide) ?_
  refine lv_icmp_ne (tgt := 134) hx hb dX4_readClause_127 (by decide) (fun c2 => ?_) (fun c2 => ?_)
  · replace hM := (if_neg c2).symm.trans hM
    refine lv_iconst (v := 0) hx hb dX4_readClause_134 (by decide) ?_
    exact wX4_readClause_135 X  S h0 v1 (gI S d1 2) 0 h0 _ _ _ hM hk0 hk0 hP hS (lv_sub hl [1, 2, 0] rfl)
  · replace hM := (if_pos c2).symm.trans hM
    refine lv_iconst (v := 1) hx hb dX4_readClause_130 (by decide) ?_
    refine lv_goto (tgt := 135) hx hb dX4_readClause_131 (by decide) ?_
    exact wX4_readClause_135 X  S h0 v1 (gI S d1 2) 1 h0 _ _ _ hM hk0 hk0 hP hS (lv_sub hl [1, 2, 0] rfl)
def jX4_readClause_72 (S : xS) (h0 : Nat) (v1 : Int32) : Option xS := (dO Yc (gR S h0 1) 6).bind fun d1 => if ((gI S d1 10) < 24 : Prop) then ((dO Yc (gR S h0 0) 7).bind fun d3 => (mX7_advance S d3).bind fun S4 => if (v1 = 200 : Prop) then (jX4_readClause_114  S4 h0 v1) else (if (v1 = 201 : Prop) then (jX4_readClause_114  S4 h0 v1) else ((mX4_readOrder S4 h0 v1).bind fun S7 => jX4_readClause_160  S7 h0))) else ((mX4_fail S h0 6).bind fun S8 => some S8)
set_option maxHeartbeats 4000000 in
set_option maxRecDepth 100000 in
theorem wX4_readClause_72 {p : Program} {l : Launch} {e : Env} {s : State} {m : MethodId} {args : Array Value} {below : List Frame} {meth : Method} {c : Code} {G : xG} {S' : xS} (X : xX p s m args meth c cX4_readClause 3 none RX4 G Yc) : ∀ (S : xS) (h0 : Nat) (v1 : Int32) (H : Heap) (locs : List Loc) (ls : Array Slot), jX4_readClause_72  S h0 v1 = some S' → xk Yc h0 = 4 → xP G Yc S H → va_S (xA G Yc) s.heap H locs → lv_has ls 3 [(0, .ref (xad G h0)), (1, .int v1)] → W p l e (xr 131 5523) s m args below meth c H locs 0 0 (MQ below (xQv G Yc S') args s 0 0 (xA G Yc)) (F0 m 72 ls []) := by
  obtain ⟨hx, hb, hml, hown, hts, hr, hlk, hK, hE, hJ⟩ := id X
  intro S h0 v1 H locs ls hM hk0 hP hS hl
  unfold jX4_readClause_72 at hM
  refine lv_aload_n hx hb dX4_readClause_72 rfl (lv_at hl 0 rfl) ?_
  obtain ⟨d1, ed1, hM⟩ := xb hM
  refine fdX4_1 X hP hk0 qw139 dX4_readClause_73 ed1 ?_
  refine fgX6_10 X hP (dO_k ed1) qw162 dX4_readClause_76 ?_
  refine lv_bipush (v := 24) hx hb dX4_readClause_79 (by decide) ?_
  refine lv_icmp_lt (tgt := 93) hx hb dX4_readClause_81 (by decide) (fun c2 => ?_) (fun c2 => ?_)
  · replace hM := (if_pos c2).symm.trans hM
    refine lv_aload_n hx hb dX4_readClause_93 rfl (lv_at hl 0 rfl) ?_
    obtain ⟨d3, ed3, hM⟩ := xb hM
    refine fdX4_0 X hP hk0 qw129 dX4_readClause_94 ed3 ?_
    obtain ⟨S4, eS4, hM⟩ := xb hM
    refine x_gov (x_runV (rest := []) X (kX7_advance l G S d3 S4 (dO_k ed3) eS4) qw134 okX7_advance ⟨Nat.le_of_ble_eq_true rfl, Nat.le_of_ble_eq_true rfl⟩ (dO_k ed3) (by decide) rfl hP hS rfl hl.1 rfl (Nat.le_of_ble_eq_true rfl) dX4_readClause_97) hS (fun H locs hP hS => ?_)
    refine lv_iload_n hx hb dX4_readClause_100 rfl (lv_at hl 1 rfl) ?_
    refine lv_sipush (v := 200) hx hb dX4_readClause_101 (by decide) ?_
    refine lv_icmp_eq (tgt := 114) hx hb dX4_readClause_104 (by decide) (fun c5 => ?_) (fun c5 => ?_)
    · replace hM := (if_pos c5).symm.trans hM
      exact wX4_readClause_114 X  S4 h0 v1 _ _ _ hM hk0 hP hS (lv_sub hl [0, 1] rfl)
    · replace hM := (if_neg c5).symm.trans hM
      refine lv_iload_n hx hb dX4_readClause_107 rfl (lv_at hl 1 rfl) ?_
      refine lv_sipush (v := 201) hx hb dX4_readClause_108 (by decide) ?_
      refine lv_icmp_ne (tgt := 155) hx hb dX4_readClause_111 (by decide) (fun c6 => ?_) (fun c6 => ?_)
      · replace hM := (if_neg c6).symm.trans hM
        refine lv_aload_n hx hb dX4_readClause_155 rfl (lv_at hl 0 rfl) ?_
        refine lv_iload_n hx hb dX4_readClause_156 rfl (lv_at hl 1 rfl) ?_
        obtain ⟨S7, eS7, hM⟩ := xb hM
        refine x_gov (x_runV (rest := []) X (kX4_readOrder l G S4 h0 v1 S7 hk0 eS7) qw163 okX4_readOrder ⟨Nat.le_of_ble_eq_true rfl, Nat.le_of_ble_eq_true rfl⟩ hk0 (by decide) rfl hP hS rfl hl.1 rfl (Nat.le_of_ble_eq_true rfl) dX4_readClause_157) hS (fun H locs hP hS => ?_)
        exact wX4_readClause_160 X  S7 h0 _ _ _ hM hk0 hP hS (lv_sub hl [0] rfl)
      · replace hM := (if_pos c6).symm.trans hM
        exact wX4_readClause_114 X  S4 h0 v1 _ _ _ hM hk0 hP hS (lv_sub hl [0, 1] rfl)
  · replace hM := (if_neg c2).symm.trans hM
    refine lv_aload_n hx hb dX4_readClause_84 rfl (lv_at hl 0 rfl) ?_
    refine lv_bipush (v := 6) hx hb dX4_readClause_85 (by decide) ?_
    obtain ⟨S8, eS8, hM⟩ := xb hM
    refine x_gov (x_runV (rest := []) X (kX4_fail l G S h0 6 S8 hk0 eS8) qw135 okX4_fail ⟨Nat.le_of_ble_eq_true rfl, Nat.le_of_ble_eq_true rfl⟩ hk0 (by decide) rfl hP hS rfl hl.1 rfl (Nat.le_of_ble_eq_true rfl) dX4_readClause_87) hS (fun H locs hP hS => ?_)
    refine lv_goto (tgt := 166) hx hb dX4_readClause_90 (by decide) ?_
    exact x_vret X hP hS hM dX4_readClause_166
def jX4_readClause_64 (S : xS) (h0 : Nat) : Option xS := (mX4_fail S h0 4).bind fun S1 => some S1
set_option maxHeartbeats 4000000 in
set_option maxRecDepth 100000 in
theorem wX4_readClause_64 {p : Program} {l : Launch} {e : Env} {s : State} {m : MethodId} {args : Array Value} {below : List Frame} {meth : Method} {c : Code} {G : xG} {S' : xS} (X : xX p s m args meth c cX4_readClause 3 none RX4 G Yc) : ∀ (S : xS) (h0 : Nat) (H : Heap) (locs : List Loc) (ls : Array Slot), jX4_readClause_64  S h0 = some S' → xk Yc h0 = 4 → xP G Yc S H → va_S (xA G Yc) s.heap H locs → lv_has ls 3 [(0, .ref (xad G h0))] → W p l e (xr 131 5523) s m args below meth c H locs 0 0 (MQ below (xQv G Yc S') args s 0 0 (xA G Yc)) (F0 m 64 ls []) := by
  obtain ⟨hx, hb, hml, hown, hts, hr, hlk, hK, hE, hJ⟩ := id X
  intro S h0 H locs ls hM hk0 hP hS hl
  unfold jX4_readClause_64 at hM
  refine lv_aload_n hx hb dX4_readClause_64 rfl (lv_at hl 0 rfl) ?_
  refine lv_iconst (v := 4) hx hb dX4_readClause_65 (by decide) ?_
  obtain ⟨S1, eS1, hM⟩ := xb hM
  refine x_gov (x_runV (rest := []) X (kX4_fail l G S h0 4 S1 hk0 eS1) qw135 okX4_fail ⟨Nat.le_of_ble_eq_true rfl, Nat.le_of_ble_eq_true rfl⟩ hk0 (by decide) rfl hP hS rfl hl.1 rfl (Nat.le_of_ble_eq_true rfl) dX4_readClause_66) hS (fun H locs hP hS => ?_)
  refine lv_goto (tgt := 166) hx hb dX4_readClause_69 (by decide) ?_
  exact x_vret X hP hS hM dX4_readClause_166
def jX4_readClause_47 (S : xS) (h0 : Nat) (v1 : Int32) : Option xS := if (v1 = 201 : Prop) then ((dO Yc (gR S h0 1) 6).bind fun d2 => (mX6_hasEats S d2).bind fun q3 => if (q3.1 = 0 : Prop) then (jX4_readClause_72  q3.2 h0 v1) else (jX4_readClause_64  q3.2 h0)) else (jX4_readClause_72  S h0 v1)
set_option maxHeartbeats 4000000 in
set_option maxRecDepth 100000 in
theorem wX4_readClause_47 {p : Program} {l : Launch} {e : Env} {s : State} {m : MethodId} {args : Array Value} {below : List Frame} {meth : Method} {c : Code} {G : xG} {S' : xS} (X : xX p s m args meth c cX4_readClause 3 none RX4 G Yc) : ∀ (S : xS) (h0 : Nat) (v1 : Int32) (H : Heap) (locs : List Loc) (ls : Array Slot), jX4_readClause_47  S h0 v1 = some S' → xk Yc h0 = 4 → xP G Yc S H → va_S (xA G Yc) s.heap H locs → lv_has ls 3 [(0, .ref (xad G h0)), (1, .int v1)] → W p l e (xr 131 5523) s m args below meth c H locs 0 0 (MQ below (xQv G Yc S') args s 0 0 (xA G Yc)) (F0 m 47 ls []) := by
  obtain ⟨hx, hb, hml, hown, hts, hr, hlk, hK, hE, hJ⟩ := id X
  intro S h0 v1 H locs ls hM hk0 hP hS hl
  unfold jX4_readClause_47 at hM
  refine lv_iload_n hx hb dX4_readClause_47 rfl (lv_at hl 1 rfl) ?_
  refine lv_sipush (v := 201) hx hb dX4_readClause_48 (by decide) ?_
  refine lv_icmp_ne (tgt := 72) hx hb dX4_readClause_51 (by decide) (fun c1 => ?_) (fun c1 => ?_)
  · replace hM := (if_neg c1).symm.trans hM
    exact wX4_readClause_72 X  S h0 v1 _ _ _ hM hk0 hP hS (lv_sub hl [0, 1] rfl)
  · replace hM := (if_pos c1).symm.trans hM
    refine lv_aload_n hx hb dX4_readClause_54 rfl (lv_at hl 0 rfl) ?_
    obtain ⟨d2, ed2, hM⟩ := xb hM
    refine fdX4_1 X hP hk0 qw139 dX4_readClause_55 ed2 ?_
    obtain ⟨q3, eq3, hM⟩ := xb hM
    refine x_goi (x_runV (rest := []) X (kX6_hasEats l G S d2 q3.1 q3.2 (dO_k ed2) eq3) qw161 okX6_hasEats ⟨Nat.le_of_ble_eq_true rfl, Nat.le_of_ble_eq_true rfl⟩ (dO_k ed2) (by decide) rfl hP hS rfl hl.1 rfl (Nat.le_of_ble_eq_true rfl) dX4_readClause_58) hS (fun H locs hP hS => ?_)
    refine lv_if_eq (tgt := 72) hx hb dX4_readClause_61 (by decide) (fun c4 => ?_) (fun c4 => ?_)
    · replace hM := (if_pos c4).symm.trans hM
      exact wX4_readClause_72 X  q3.2 h0 v1 _ _ _ hM hk0 hP hS (lv_sub hl [0, 1] rfl)
    · replace hM := (if_neg c4).symm.trans hM
      exact wX4_readClause_64 X  q3.2 h0 _ _ _ hM hk0 hP hS (lv_sub hl [0] rfl)
def jX4_readClause_22 (S : xS) (h0 : Nat) : Option xS := (mX4_fail S h0 1).bind fun S1 => some S1
set_option maxHeartbeats 4000000 in
set_option maxRecDepth 100000 in
theorem wX4_readClause_22 {p : Program} {l : Launch} {e : Env} {s : State} {m : MethodId} {args : Array Value} {below : List Frame} {meth : Method} {c : Code} {G : xG} {S' : xS} (X : xX p s m args meth c cX4_readClause 3 none RX4 G Yc) : ∀ (S : xS) (h0 : Nat) (H : Heap) (locs : List Loc) (ls : Array Slot), jX4_readClause_22  S h0 = some S' → xk Yc h0 = 4 → xP G Yc S H → va_S (xA G Yc) s.heap H locs → lv_has ls 3 [(0, .ref (xad G h0))] → W p l e (xr 131 5523) s m args below meth c H locs 0 0 (MQ below (xQv G Yc S') args s 0 0 (xA G Yc)) (F0 m 22 ls []) := by
  obtain ⟨hx, hb, hml, hown, hts, hr, hlk, hK, hE, hJ⟩ := id X
  intro S h0 H locs ls hM hk0 hP hS hl
  unfold jX4_readClause_22 at hM
  refine lv_aload_n hx hb dX4_readClause_22 rfl (lv_at hl 0 rfl) ?_
  refine lv_iconst (v := 1) hx hb dX4_readClause_23 (by decide) ?_
  obtain ⟨S1, eS1, hM⟩ := xb hM
  refine x_gov (x_runV (rest := []) X (kX4_fail l G S h0 1 S1 hk0 eS1) qw135 okX4_fail ⟨Nat.le_of_ble_eq_true rfl, Nat.le_of_ble_eq_true rfl⟩ hk0 (by decide) rfl hP hS rfl hl.1 rfl (Nat.le_of_ble_eq_true rfl) dX4_readClause_24) hS (fun H locs hP hS => ?_)
  refine lv_goto (tgt := 166) hx hb dX4_readClause_27 (by decide) ?_
  exact x_vret X hP hS hM dX4_readClause_166
def mX4_readClause (S : xS) (h0 : Nat) : Option xS := (dO Yc (gR S h0 0) 7).bind fun d1 => if ((gI S d1 2) < 200 : Prop) then (jX4_readClause_22  S h0) else (if ((gI S d1 2) ≤ 205 : Prop) then (if ((gI S d1 2) = 200 : Prop) then ((dO Yc (gR S h0 1) 6).bind fun d5 => (mX6_hasSlices S d5).bind fun q6 => if (q6.1 = 0 : Prop) then (jX4_readClause_47  q6.2 h0 (gI S d1 2)) else (jX4_readClause_64  q6.2 h0)) else (jX4_readClause_47  S h0 (gI S d1 2))) else (jX4_readClause_22  S h0))
set_option maxHeartbeats 4000000 in
set_option maxRecDepth 100000 in
theorem kX4_readClause (l : Launch) (G : xG) (S : xS) (h0 : Nat) (S' : xS) (hk0 : xk Yc h0 = 4) (hM : mX4_readClause S h0 = some S') : xM l yX4_readClause cX4_readClause 3 none 131 5523 G Yc [.ref (xad G h0)] S (xQv G Yc S') := by
  refine x_start (own := RX4) (by decide +kernel) rfl (Nat.le_of_ble_eq_true rfl) ?_
  intro p e s m below meth c ls X hl hP hS
  obtain ⟨hx, hb, hml, hown, hts, hr, hlk, hK, hE, hJ⟩ := id X
  have hl : lv_has ls 3 [(0, .ref (xad G h0))] := hl
  unfold mX4_readClause at hM
  refine lv_aload_n hx hb dX4_readClause_0 rfl (lv_at hl 0 rfl) ?_
  obtain ⟨d1, ed1, hM⟩ := xb hM
  refine fdX4_0 X hP hk0 qw129 dX4_readClause_1 ed1 ?_
  refine fgX7_2 X hP (dO_k ed1) qw133 dX4_readClause_4 ?_
  refine lv_istore_n (lv' := [(1, .int (gI S d1 2)), (0, .ref (xad G h0))]) hx hb dX4_readClause_7 rfl hl (by decide) rfl (fun ls hl => ?_)
  refine lv_iload_n hx hb dX4_readClause_8 rfl (lv_at hl 0 rfl) ?_
  refine lv_sipush (v := 200) hx hb dX4_readClause_9 (by decide) ?_
  refine lv_icmp_lt (tgt := 22) hx hb dX4_readClause_12 (by decide) (fun c2 => ?_) (fun c2 => ?_)
  · replace hM := (if_pos c2).symm.trans hM
    exact wX4_readClause_22 X  S h0 _ _ _ hM hk0 hP hS (lv_sub hl [1] rfl)
  · replace hM := (if_neg c2).symm.trans hM
    refine lv_iload_n hx hb dX4_readClause_15 rfl (lv_at hl 0 rfl) ?_
    refine lv_sipush (v := 205) hx hb dX4_readClause_16 (by decide) ?_
    refine lv_icmp_le (tgt := 30) hx hb dX4_readClause_19 (by decide) (fun c3 => ?_) (fun c3 => ?_)
    · replace hM := (if_pos c3).symm.trans hM
      refine lv_iload_n hx hb dX4_readClause_30 rfl (lv_at hl 0 rfl) ?_
      refine lv_sipush (v := 200) hx hb dX4_readClause_31 (by decide) ?_
      refine lv_icmp_ne (tgt := 47) hx hb dX4_readClause_34 (by decide) (fun c4 => ?_) (fun c4 => ?_)
      · replace hM := (if_neg c4).symm.trans hM
        exact wX4_readClause_47 X  S h0 (gI S d1 2) _ _ _ hM hk0 hP hS (lv_sub hl [1, 0] rfl)
      · replace hM := (if_pos c4).symm.trans hM
        refine lv_aload_n hx hb dX4_readClause_37 rfl (lv_at hl 1 rfl) ?_
        obtain ⟨d5, ed5, hM⟩ := xb hM
        refine fdX4_1 X hP hk0 qw139 dX4_readClause_38 ed5 ?_
        obtain ⟨q6, eq6, hM⟩ := xb hM
        refine x_goi (x_runV (rest := []) X (kX6_hasSlices l G S d5 q6.1 q6.2 (dO_k ed5) eq6) qw160 okX6_hasSlices ⟨Nat.le_of_ble_eq_true rfl, Nat.le_of_ble_eq_true rfl⟩ (dO_k ed5) (by decide) rfl hP hS rfl hl.1 rfl (Nat.le_of_ble_eq_true rfl) dX4_readClause_41) hS (fun H locs hP hS => ?_)
        refine lv_if_ne (tgt := 64) hx hb dX4_readClause_44 (by decide) (fun c7 => ?_) (fun c7 => ?_)
        · replace hM := (if_neg c7).symm.trans hM
          exact wX4_readClause_64 X  q6.2 h0 _ _ _ hM hk0 hP hS (lv_sub hl [1] rfl)
        · replace hM := (if_pos c7).symm.trans hM
          exact wX4_readClause_47 X  q6.2 h0 (gI S d1 2) _ _ _ hM hk0 hP hS (lv_sub hl [1, 0] rfl)
    · replace hM := (if_neg c3).symm.trans hM
      exact wX4_readClause_22 X  S h0 _ _ _ hM hk0 hP hS (lv_sub hl [1] rfl)

def jX4_parse_76 (S : xS) (h0 : Nat) : Option (Int32 × xS) := if ((gI S h0 4) = 0 : Prop) then (some (1, S)) else (some (0, S))
set_option maxHeartbeats 4000000 in
set_option maxRecDepth 100000 in
theorem wX4_parse_76 {p : Program} {l : Launch} {e : Env} {s : State} {m : MethodId} {args : Array Value} {below : List Frame} {meth : Method} {c : Code} {G : xG} {r : Int32} {S' : xS} (X : xX p s m args meth c cX4_parse 3 (some .boolean) RX4 G Yc) : ∀ (S : xS) (h0 : Nat) (H : Heap) (locs : List Loc) (ls : Array Slot), jX4_parse_76  S h0 = some (r, S') → xk Yc h0 = 4 → xP G Yc S H → va_S (xA G Yc) s.heap H locs → lv_has ls 3 [(0, .ref (xad G h0))] → W p l e (xr 132 5545) s m args below meth c H locs 0 0 (MQ below (xQi G Yc r S') args s 0 0 (xA G Yc)) (F0 m 76 ls []) := by
  obtain ⟨hx, hb, hml, hown, hts, hr, hlk, hK, hE, hJ⟩ := id X
  intro S h0 H locs ls hM hk0 hP hS hl
  unfold jX4_parse_76 at hM
  refine lv_aload_n hx hb dX4_parse_76 rfl (lv_at hl 0 rfl) ?_
  refine fgX4_4 X hP hk0 qw128 dX4_parse_77 ?_
  refine lv_if_ne (tgt := 87) hx hb dX4_parse_80 (by decide) (fun c1 => ?_) (fun c1 => ?_)
  · replace hM := (if_neg c1).symm.trans hM
    refine lv_iconst (v := 0) hx hb dX4_parse_87 (by decide) ?_
    exact x_zret X hP hS (Or.inl rfl) hM dX4_parse_88
  · replace hM := (if_pos c1).symm.trans hM
    refine lv_iconst (v := 1) hx hb dX4_parse_83 (by decide) ?_
    refine lv_goto (tgt := 88) hx hb dX4_parse_84 (by decide) ?_
    exact x_zret X hP hS (Or.inr rfl) hM dX4_parse_88
def lX4_parse_42 : Nat → xS → Nat → Int32 → Option (Int32 × xS)
  | 0, _, _, _ => none
  | n + 1, S, h0, v2 => if (300 ≤ v2 : Prop) then (jX4_parse_76  S h0) else (if ((gI S h0 4) = 0 : Prop) then ((dO Yc (gR S h0 0) 7).bind fun d3 => if ((gI S d3 2) = 0 : Prop) then (jX4_parse_76  S h0) else ((mX4_readClause S h0).bind fun S5 => lX4_parse_42 n S5 h0 (v2 + 1))) else (jX4_parse_76  S h0))
set_option maxHeartbeats 4000000 in
set_option maxRecDepth 100000 in
theorem wX4_parse_42 {p : Program} {l : Launch} {e : Env} {s : State} {m : MethodId} {args : Array Value} {below : List Frame} {meth : Method} {c : Code} {G : xG} {r : Int32} {S' : xS} (X : xX p s m args meth c cX4_parse 3 (some .boolean) RX4 G Yc) : ∀ (n : Nat), ∀ (S : xS) (h0 : Nat) (v2 : Int32) (H : Heap) (locs : List Loc) (ls : Array Slot), lX4_parse_42  n S h0 v2 = some (r, S') → xk Yc h0 = 4 → xP G Yc S H → va_S (xA G Yc) s.heap H locs → lv_has ls 3 [(0, .ref (xad G h0)), (2, .int v2)] → W p l e (xr 132 5545) s m args below meth c H locs 0 0 (MQ below (xQi G Yc r S') args s 0 0 (xA G Yc)) (F0 m 42 ls []) := by
  obtain ⟨hx, hb, hml, hown, hts, hr, hlk, hK, hE, hJ⟩ := id X
  intro n
  induction n with
  | zero =>
    intro S h0 v2 H locs ls hM
    rw [lX4_parse_42.eq_1] at hM
    cases hM
  | succ n ih =>
    intro S h0 v2 H locs ls hM hk0 hP hS hl
    rw [lX4_parse_42.eq_2] at hM
    refine lv_iload_n hx hb dX4_parse_42 rfl (lv_at hl 1 rfl) ?_
    refine lv_sipush (v := 300) hx hb dX4_parse_43 (by decide) ?_
    refine lv_icmp_ge (tgt := 76) hx hb dX4_parse_46 (by decide) (fun c1 => ?_) (fun c1 => ?_)
    · replace hM := (if_pos c1).symm.trans hM
      exact wX4_parse_76 X  S h0 _ _ _ hM hk0 hP hS (lv_sub hl [0] rfl)
    · replace hM := (if_neg c1).symm.trans hM
      refine lv_aload_n hx hb dX4_parse_49 rfl (lv_at hl 0 rfl) ?_
      refine fgX4_4 X hP hk0 qw128 dX4_parse_50 ?_
      refine lv_if_ne (tgt := 76) hx hb dX4_parse_53 (by decide) (fun c2 => ?_) (fun c2 => ?_)
      · replace hM := (if_neg c2).symm.trans hM
        exact wX4_parse_76 X  S h0 _ _ _ hM hk0 hP hS (lv_sub hl [0] rfl)
      · replace hM := (if_pos c2).symm.trans hM
        refine lv_aload_n hx hb dX4_parse_56 rfl (lv_at hl 0 rfl) ?_
        obtain ⟨d3, ed3, hM⟩ := xb hM
        refine fdX4_0 X hP hk0 qw129 dX4_parse_57 ed3 ?_
        refine fgX7_2 X hP (dO_k ed3) qw133 dX4_parse_60 ?_
        refine lv_if_eq (tgt := 76) hx hb dX4_parse_63 (by decide) (fun c4 => ?_) (fun c4 => ?_)
        · replace hM := (if_pos c4).symm.trans hM
          exact wX4_parse_76 X  S h0 _ _ _ hM hk0 hP hS (lv_sub hl [0] rfl)
        · replace hM := (if_neg c4).symm.trans hM
          refine lv_aload_n hx hb dX4_parse_66 rfl (lv_at hl 0 rfl) ?_
          obtain ⟨S5, eS5, hM⟩ := xb hM
          refine x_gov (x_runV (rest := []) X (kX4_readClause l G S h0 S5 hk0 eS5) qw168 okX4_readClause ⟨Nat.le_of_ble_eq_true rfl, Nat.le_of_ble_eq_true rfl⟩ hk0 (by decide) rfl hP hS rfl hl.1 rfl (Nat.le_of_ble_eq_true rfl) dX4_parse_67) hS (fun H locs hP hS => ?_)
          refine lv_iinc (v := v2 + 1) (lv' := [(2, .int (v2 + 1)), (0, .ref (xad G h0))]) hx hb dX4_parse_70 hl (k := 1) rfl (by first | rfl | exact congrArg (fun z => v2 + z) (by decide)) (by decide) rfl (fun ls hl => ?_)
          refine lv_goto (tgt := 42) hx hb dX4_parse_73 (by decide) ?_
          exact ih S5 h0 (v2 + 1) _ _ _ hM hk0 hP hS (lv_sub hl [1, 0] rfl)
def mX4_parse (S : xS) (h0 : Nat) (r1 : Option Nat) : Option (Int32 × xS) := if r1 = none then (some (0, S)) else (xlet (pI S h0 3 1) fun S2 => xlet (pI S2 h0 4 0) fun S3 => xlet (pI S3 h0 5 (-1)) fun S4 => xlet (pR S4 h0 1 r1) fun S5 => (dO Yc (gR S5 h0 1) 6).bind fun d6 => (mX6_clear S5 d6).bind fun S7 => (dO Yc (gR S7 h0 0) 7).bind fun d8 => (mX7_rewind S7 d8).bind fun S9 => lX4_parse_42  5000 S9 h0 0)
set_option maxHeartbeats 4000000 in
set_option maxRecDepth 100000 in
theorem kX4_parse (l : Launch) (G : xG) (S : xS) (h0 : Nat) (r1 : Option Nat) (r : Int32) (S' : xS) (hk0 : xk Yc h0 = 4) (hM : mX4_parse S h0 r1 = some (r, S')) : xM l yX4_parse cX4_parse 3 (some .boolean) 132 5545 G Yc [.ref (xad G h0), va_rf (Option.map (xad G) r1)] S (xQi G Yc r S') := by
  refine x_start (own := RX4) (by decide +kernel) rfl (by cases r1 <;> exact Nat.le_of_ble_eq_true rfl) ?_
  intro p e s m below meth c ls X hl hP hS
  obtain ⟨hx, hb, hml, hown, hts, hr, hlk, hK, hE, hJ⟩ := id X
  have hl : lv_has ls 3 [(0, .ref (xad G h0)), (1, va_rf (Option.map (xad G) r1))] := by cases r1 <;> exact hl
  unfold mX4_parse at hM
  refine x_aloadR_n hx hb dX4_parse_0 rfl (lv_at hl 1 rfl) ?_
  refine x_ifnonnull (tgt := 6) hx hb dX4_parse_1 (by decide) (fun c1 => ?_) (fun c1 => ?_)
  · replace hM := (if_neg c1).symm.trans hM
    refine lv_aload_n hx hb dX4_parse_6 rfl (lv_at hl 0 rfl) ?_
    refine lv_iconst (v := 1) hx hb dX4_parse_7 (by decide) ?_
    obtain ⟨S2, eS2, hM⟩ := xlet_ex hM
    refine fpX4_3 X hP hS (Or.inr rfl) hk0 qw165 dX4_parse_8 eS2 (fun H locs hP hS => ?_)
    refine lv_aload_n hx hb dX4_parse_11 rfl (lv_at hl 0 rfl) ?_
    refine lv_iconst (v := 0) hx hb dX4_parse_12 (by decide) ?_
    obtain ⟨S3, eS3, hM⟩ := xlet_ex hM
    refine fpX4_4 X hP hS hk0 qw128 dX4_parse_13 eS3 (fun H locs hP hS => ?_)
    refine lv_aload_n hx hb dX4_parse_16 rfl (lv_at hl 0 rfl) ?_
    refine lv_iconst (v := (-1)) hx hb dX4_parse_17 (by decide) ?_
    obtain ⟨S4, eS4, hM⟩ := xlet_ex hM
    refine fpX4_5 X hP hS hk0 qw131 dX4_parse_18 eS4 (fun H locs hP hS => ?_)
    refine lv_aload_n hx hb dX4_parse_21 rfl (lv_at hl 0 rfl) ?_
    refine x_aloadR_n hx hb dX4_parse_22 rfl (lv_at hl 1 rfl) ?_
    obtain ⟨S5, eS5, hM⟩ := xlet_ex hM
    refine fpX4_1 X hP hS (v := r1) hk0 qw139 dX4_parse_23 eS5 (fun H locs hP hS => ?_)
    refine lv_aload_n hx hb dX4_parse_26 rfl (lv_at hl 0 rfl) ?_
    obtain ⟨d6, ed6, hM⟩ := xb hM
    refine fdX4_1 X hP hk0 qw139 dX4_parse_27 ed6 ?_
    obtain ⟨S7, eS7, hM⟩ := xb hM
    refine x_gov (x_runV (rest := []) X (kX6_clear l G S5 d6 S7 (dO_k ed6) eS7) qw166 okX6_clear ⟨Nat.le_of_ble_eq_true rfl, Nat.le_of_ble_eq_true rfl⟩ (dO_k ed6) (by decide) rfl hP hS rfl hl.1 rfl (Nat.le_of_ble_eq_true rfl) dX4_parse_30) hS (fun H locs hP hS => ?_)
    refine lv_aload_n hx hb dX4_parse_33 rfl (lv_at hl 0 rfl) ?_
    obtain ⟨d8, ed8, hM⟩ := xb hM
    refine fdX4_0 X hP hk0 qw129 dX4_parse_34 ed8 ?_
    obtain ⟨S9, eS9, hM⟩ := xb hM
    refine x_gov (x_runV (rest := []) X (kX7_rewind l G S7 d8 S9 (dO_k ed8) eS9) qw167 okX7_rewind ⟨Nat.le_of_ble_eq_true rfl, Nat.le_of_ble_eq_true rfl⟩ (dO_k ed8) (by decide) rfl hP hS rfl hl.1 rfl (Nat.le_of_ble_eq_true rfl) dX4_parse_37) hS (fun H locs hP hS => ?_)
    refine lv_iconst (v := 0) hx hb dX4_parse_40 (by decide) ?_
    refine lv_istore_n (lv' := [(2, .int 0), (0, .ref (xad G h0)), (1, va_rf (Option.map (xad G) r1))]) hx hb dX4_parse_41 rfl hl (by decide) (by cases r1 <;> rfl) (fun ls hl => ?_)
    exact wX4_parse_42 X  5000 S9 h0 0 _ _ _ hM hk0 hP hS (lv_sub hl [1, 0] rfl)
  · replace hM := (if_pos c1).symm.trans hM
    refine lv_iconst (v := 0) hx hb dX4_parse_4 (by decide) ?_
    exact x_zret X hP hS (Or.inl rfl) hM dX4_parse_5

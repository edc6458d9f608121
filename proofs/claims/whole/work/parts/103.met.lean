def jX7_readWord_93 (k51 : xS → Nat → Int32 → Int32 → Int32 → Option xS) (S : xS) (h0 : Nat) (v1 : Int32) (v3 : Int32) : Option xS := k51 S h0 (v1 + 1) (v3 + 1) (v3 + 1)
set_option maxHeartbeats 4000000 in
set_option maxRecDepth 100000 in
theorem wX7_readWord_93 {p : Program} {l : Launch} {e : Env} {s : State} {m : MethodId} {args : Array Value} {below : List Frame} {meth : Method} {c : Code} {G : xG} {S' : xS} (X : xX p s m args meth c cX7_readWord 4 none RX7 G Yc) (k51 : xS → Nat → Int32 → Int32 → Int32 → Option xS) (hh51 : ∀ (S : xS) (h0 : Nat) (v1 : Int32) (v2 : Int32) (v3 : Int32) (H : Heap) (locs : List Loc) (ls : Array Slot), k51 S h0 v1 v2 v3 = some S' → xk Yc h0 = 7 → xP G Yc S H → va_S (xA G Yc) s.heap H locs → lv_has ls 4 [(0, .ref (xad G h0)), (1, .int v1), (2, .int v2), (3, .int v3)] → W p l e (xr 5 144) s m args below meth c H locs 0 0 (MQ below (xQv G Yc S') args s 0 0 (xA G Yc)) (F0 m 51 ls [])) : ∀ (S : xS) (h0 : Nat) (v1 : Int32) (v3 : Int32) (H : Heap) (locs : List Loc) (ls : Array Slot), jX7_readWord_93 k51 S h0 v1 v3 = some S' → xk Yc h0 = 7 → xP G Yc S H → va_S (xA G Yc) s.heap H locs → lv_has ls 4 [(0, .ref (xad G h0)), (1, .int v1), (3, .int v3)] → W p l e (xr 5 144) s m args below meth c H locs 0 0 (MQ below (xQv G Yc S') args s 0 0 (xA G Yc)) (F0 m 93 ls []) := by
  obtain ⟨hx, hb, hml, hown, hts, hr, hlk, hK, hE, hJ⟩ := id X
  intro S h0 v1 v3 H locs ls hM hk0 hP hS hl
  unfold jX7_readWord_93 at hM
  refine lv_iinc (v := v1 + 1) (lv' := [(1, .int (v1 + 1)), (0, .ref (xad G h0)), (3, .int v3)]) hx hb dX7_readWord_93 hl (k := 1) rfl (by first | rfl | exact congrArg (fun z => v1 + z) (by decide)) (by decide) rfl (fun ls hl => ?_)
  refine lv_iload_n hx hb dX7_readWord_96 rfl (lv_at hl 2 rfl) ?_
  refine lv_iconst (v := 1) hx hb dX7_readWord_97 (by decide) ?_
  refine lv_iadd hx hb dX7_readWord_98 ?_
  refine lv_istore_n (lv' := [(2, .int (v3 + 1)), (1, .int (v1 + 1)), (0, .ref (xad G h0)), (3, .int v3)]) hx hb dX7_readWord_99 rfl hl (by decide) rfl (fun ls hl => ?_)
  refine lv_iinc (v := v3 + 1) (lv' := [(3, .int (v3 + 1)), (2, .int (v3 + 1)), (1, .int (v1 + 1)), (0, .ref (xad G h0))]) hx hb dX7_readWord_100 hl (k := 3) rfl (by first | rfl | exact congrArg (fun z => v3 + z) (by decide)) (by decide) rfl (fun ls hl => ?_)
  refine lv_goto (tgt := 51) hx hb dX7_readWord_103 (by decide) ?_
  exact hh51 S h0 (v1 + 1) (v3 + 1) (v3 + 1) _ _ _ hM hk0 hP hS (lv_sub hl [3, 2, 1, 0] rfl)
def lX7_readWord_51 : Nat → xS → Nat → Int32 → Int32 → Int32 → Option xS
  | 0, _, _, _, _, _ => none
  | n + 1, S, h0, v1, v2, v3 => if (89 ≤ v3 : Prop) then (some S) else (if ((gI S h0 2) = 1 : Prop) then ((xch 0 v3).bind fun x3 => if (x3 = 32 : Prop) then ((mX7_spells S h0 v2 v3).bind fun q5 => if (q5.1 = 0 : Prop) then (jX7_readWord_93 (lX7_readWord_51  n) q5.2 h0 v1 v3) else (xlet (pI q5.2 h0 2 v1) fun S7 => jX7_readWord_93 (lX7_readWord_51  n) S7 h0 v1 v3)) else (lX7_readWord_51 n S h0 v1 v2 (v3 + 1))) else (some S))
set_option maxHeartbeats 4000000 in
set_option maxRecDepth 100000 in
theorem wX7_readWord_51 {p : Program} {l : Launch} {e : Env} {s : State} {m : MethodId} {args : Array Value} {below : List Frame} {meth : Method} {c : Code} {G : xG} {S' : xS} (X : xX p s m args meth c cX7_readWord 4 none RX7 G Yc) : ∀ (n : Nat), ∀ (S : xS) (h0 : Nat) (v1 : Int32) (v2 : Int32) (v3 : Int32) (H : Heap) (locs : List Loc) (ls : Array Slot), lX7_readWord_51  n S h0 v1 v2 v3 = some S' → xk Yc h0 = 7 → xP G Yc S H → va_S (xA G Yc) s.heap H locs → lv_has ls 4 [(0, .ref (xad G h0)), (1, .int v1), (2, .int v2), (3, .int v3)] → W p l e (xr 5 144) s m args below meth c H locs 0 0 (MQ below (xQv G Yc S') args s 0 0 (xA G Yc)) (F0 m 51 ls []) := by
  obtain ⟨hx, hb, hml, hown, hts, hr, hlk, hK, hE, hJ⟩ := id X
  intro n
  induction n with
  | zero =>
    intro S h0 v1 v2 v3 H locs ls hM
    rw [lX7_readWord_51.eq_1] at hM
    cases hM
  | succ n ih =>
    intro S h0 v1 v2 v3 H locs ls hM hk0 hP hS hl
    rw [lX7_readWord_51.eq_2] at hM
    refine lv_iload_n hx hb dX7_readWord_51 rfl (lv_at hl 3 rfl) ?_
    refine va_ldcS hx hb hown hE.1 dX7_readWord_52 ?_
    refine x_goi (x_runT (rest := [.int v3]) X 0 (by decide) (kJ_len l G Yc S 0 (by decide)) qw113 okJ0_length_8abf5 ⟨Nat.le_of_ble_eq_true rfl, Nat.le_of_ble_eq_true rfl⟩ hP hS rfl hl.1 rfl (Nat.le_of_ble_eq_true rfl) dX7_readWord_54) hS (fun H locs hP hS => ?_)
    refine x_topi (v := 89) (by decide) ?_
    refine lv_icmp_ge (tgt := 106) hx hb dX7_readWord_57 (by decide) (fun c1 => ?_) (fun c1 => ?_)
    · replace hM := (if_pos c1).symm.trans hM
      exact x_vret X hP hS hM dX7_readWord_106
    · replace hM := (if_neg c1).symm.trans hM
      refine lv_aload_n hx hb dX7_readWord_60 rfl (lv_at hl 0 rfl) ?_
      refine fgX7_2 X hP hk0 qw117 dX7_readWord_61 ?_
      refine lv_iconst (v := 1) hx hb dX7_readWord_64 (by decide) ?_
      refine lv_icmp_ne (tgt := 106) hx hb dX7_readWord_65 (by decide) (fun c2 => ?_) (fun c2 => ?_)
      · replace hM := (if_neg c2).symm.trans hM
        exact x_vret X hP hS hM dX7_readWord_106
      · replace hM := (if_pos c2).symm.trans hM
        refine va_ldcS hx hb hown hE.1 dX7_readWord_68 ?_
        refine lv_iload_n hx hb dX7_readWord_70 rfl (lv_at hl 3 rfl) ?_
        obtain ⟨x3, ex3, hM⟩ := xb hM
        refine x_goi (x_runT (rest := []) X 0 (by decide) (kJ_chr l G Yc S 0 v3 x3 ex3 (by decide)) qw114 okJ0_charAt_5068e ⟨Nat.le_of_ble_eq_true rfl, Nat.le_of_ble_eq_true rfl⟩ hP hS rfl hl.1 rfl (Nat.le_of_ble_eq_true rfl) dX7_readWord_71) hS (fun H locs hP hS => ?_)
        refine lv_bipush (v := 32) hx hb dX7_readWord_74 (by decide) ?_
        refine lv_icmp_ne (tgt := 100) hx hb dX7_readWord_76 (by decide) (fun c4 => ?_) (fun c4 => ?_)
        · replace hM := (if_neg c4).symm.trans hM
          refine lv_iinc (v := v3 + 1) (lv' := [(3, .int (v3 + 1)), (0, .ref (xad G h0)), (1, .int v1), (2, .int v2)]) hx hb dX7_readWord_100 hl (k := 3) rfl (by first | rfl | exact congrArg (fun z => v3 + z) (by decide)) (by decide) rfl (fun ls hl => ?_)
          refine lv_goto (tgt := 51) hx hb dX7_readWord_103 (by decide) ?_
          exact ih S h0 v1 v2 (v3 + 1) _ _ _ hM hk0 hP hS (lv_sub hl [1, 2, 3, 0] rfl)
        · replace hM := (if_pos c4).symm.trans hM
          refine lv_aload_n hx hb dX7_readWord_79 rfl (lv_at hl 0 rfl) ?_
          refine lv_iload_n hx hb dX7_readWord_80 rfl (lv_at hl 2 rfl) ?_
          refine lv_iload_n hx hb dX7_readWord_81 rfl (lv_at hl 3 rfl) ?_
          obtain ⟨q5, eq5, hM⟩ := xb hM
          refine x_goi (x_runV (rest := []) X (kX7_spells l G S h0 v2 v3 q5.1 q5.2 hk0 eq5) qw118 okX7_spells ⟨Nat.le_of_ble_eq_true rfl, Nat.le_of_ble_eq_true rfl⟩ hk0 (by decide) rfl hP hS rfl hl.1 rfl (Nat.le_of_ble_eq_true rfl) dX7_readWord_82) hS (fun H locs hP hS => ?_)
          refine lv_if_eq (tgt := 93) hx hb dX7_readWord_85 (by decide) (fun c6 => ?_) (fun c6 => ?_)
          · replace hM := (if_pos c6).symm.trans hM
            exact wX7_readWord_93 X (lX7_readWord_51  n) ih q5.2 h0 v1 v3 _ _ _ hM hk0 hP hS (lv_sub hl [0, 1, 3] rfl)
          · replace hM := (if_neg c6).symm.trans hM
            refine lv_aload_n hx hb dX7_readWord_88 rfl (lv_at hl 0 rfl) ?_
            refine lv_iload_n hx hb dX7_readWord_89 rfl (lv_at hl 1 rfl) ?_
            obtain ⟨S7, eS7, hM⟩ := xlet_ex hM
            refine fpX7_2 X hP hS hk0 qw117 dX7_readWord_90 eS7 (fun H locs hP hS => ?_)
            exact wX7_readWord_93 X (lX7_readWord_51  n) ih S7 h0 v1 v3 _ _ _ hM hk0 hP hS (lv_sub hl [0, 1, 3] rfl)
def jX7_readWord_38 (S : xS) (h0 : Nat) : Option xS := xlet (pI S h0 2 1) fun S1 => lX7_readWord_51  5000 S1 h0 200 0 0
set_option maxHeartbeats 4000000 in
set_option maxRecDepth 100000 in
theorem wX7_readWord_38 {p : Program} {l : Launch} {e : Env} {s : State} {m : MethodId} {args : Array Value} {below : List Frame} {meth : Method} {c : Code} {G : xG} {S' : xS} (X : xX p s m args meth c cX7_readWord 4 none RX7 G Yc) : ∀ (S : xS) (h0 : Nat) (H : Heap) (locs : List Loc) (ls : Array Slot), jX7_readWord_38  S h0 = some S' → xk Yc h0 = 7 → xP G Yc S H → va_S (xA G Yc) s.heap H locs → lv_has ls 4 [(0, .ref (xad G h0))] → W p l e (xr 5 144) s m args below meth c H locs 0 0 (MQ below (xQv G Yc S') args s 0 0 (xA G Yc)) (F0 m 38 ls []) := by
  obtain ⟨hx, hb, hml, hown, hts, hr, hlk, hK, hE, hJ⟩ := id X
  intro S h0 H locs ls hM hk0 hP hS hl
  unfold jX7_readWord_38 at hM
  refine lv_aload_n hx hb dX7_readWord_38 rfl (lv_at hl 0 rfl) ?_
  refine lv_iconst (v := 1) hx hb dX7_readWord_39 (by decide) ?_
  obtain ⟨S1, eS1, hM⟩ := xlet_ex hM
  refine fpX7_2 X hP hS hk0 qw117 dX7_readWord_40 eS1 (fun H locs hP hS => ?_)
  refine lv_sipush (v := 200) hx hb dX7_readWord_43 (by decide) ?_
  refine lv_istore_n (lv' := [(1, .int 200), (0, .ref (xad G h0))]) hx hb dX7_readWord_46 rfl hl (by decide) rfl (fun ls hl => ?_)
  refine lv_iconst (v := 0) hx hb dX7_readWord_47 (by decide) ?_
  refine lv_istore_n (lv' := [(2, .int 0), (1, .int 200), (0, .ref (xad G h0))]) hx hb dX7_readWord_48 rfl hl (by decide) rfl (fun ls hl => ?_)
  refine lv_iconst (v := 0) hx hb dX7_readWord_49 (by decide) ?_
  refine lv_istore_n (lv' := [(3, .int 0), (2, .int 0), (1, .int 200), (0, .ref (xad G h0))]) hx hb dX7_readWord_50 rfl hl (by decide) rfl (fun ls hl => ?_)
  exact wX7_readWord_51 X  5000 S1 h0 200 0 0 _ _ _ hM hk0 hP hS (lv_sub hl [3, 2, 1, 0] rfl)
def lX7_readWord_0 : Nat → xS → Nat → Option xS
  | 0, _, _ => none
  | n + 1, S, h0 => if ((gI S h0 1) ≤ (gI S h0 5) : Prop) then (jX7_readWord_38  S h0) else ((mX7_byteAt S h0 (gI S h0 5)).bind fun q2 => (mX7_isLetter q2.2 q2.1).bind fun q3 => if (q3.1 = 0 : Prop) then (jX7_readWord_38  q3.2 h0) else (xlet (pI q3.2 h0 5 ((gI q3.2 h0 5) + 1)) fun S5 => lX7_readWord_0 n S5 h0))
set_option maxHeartbeats 4000000 in
set_option maxRecDepth 100000 in
theorem wX7_readWord_0 {p : Program} {l : Launch} {e : Env} {s : State} {m : MethodId} {args : Array Value} {below : List Frame} {meth : Method} {c : Code} {G : xG} {S' : xS} (X : xX p s m args meth c cX7_readWord 4 none RX7 G Yc) : ∀ (n : Nat), ∀ (S : xS) (h0 : Nat) (H : Heap) (locs : List Loc) (ls : Array Slot), lX7_readWord_0  n S h0 = some S' → xk Yc h0 = 7 → xP G Yc S H → va_S (xA G Yc) s.heap H locs → lv_has ls 4 [(0, .ref (xad G h0))] → W p l e (xr 5 144) s m args below meth c H locs 0 0 (MQ below (xQv G Yc S') args s 0 0 (xA G Yc)) (F0 m 0 ls []) := by
  obtain ⟨hx, hb, hml, hown, hts, hr, hlk, hK, hE, hJ⟩ := id X
  intro n
  induction n with
  | zero =>
    intro S h0 H locs ls hM
    rw [lX7_readWord_0.eq_1] at hM
    cases hM
  | succ n ih =>
    intro S h0 H locs ls hM hk0 hP hS hl
    rw [lX7_readWord_0.eq_2] at hM
    refine lv_aload_n hx hb dX7_readWord_0 rfl (lv_at hl 0 rfl) ?_
    refine fgX7_5 X hP hk0 qw111 dX7_readWord_1 ?_
    refine lv_aload_n hx hb dX7_readWord_4 rfl (lv_at hl 0 rfl) ?_
    refine fgX7_1 X hP hk0 qw109 dX7_readWord_5 ?_
    refine lv_icmp_ge (tgt := 38) hx hb dX7_readWord_8 (by decide) (fun c1 => ?_) (fun c1 => ?_)
    · replace hM := (if_pos c1).symm.trans hM
      exact wX7_readWord_38 X  S h0 _ _ _ hM hk0 hP hS (lv_sub hl [0] rfl)
    · replace hM := (if_neg c1).symm.trans hM
      refine lv_aload_n hx hb dX7_readWord_11 rfl (lv_at hl 0 rfl) ?_
      refine lv_aload_n hx hb dX7_readWord_12 rfl (lv_at hl 0 rfl) ?_
      refine fgX7_5 X hP hk0 qw111 dX7_readWord_13 ?_
      obtain ⟨q2, eq2, hM⟩ := xb hM
      refine x_goi (x_runV (rest := []) X (kX7_byteAt l G S h0 (gI S h0 5) q2.1 q2.2 hk0 eq2) qw115 okX7_byteAt ⟨Nat.le_of_ble_eq_true rfl, Nat.le_of_ble_eq_true rfl⟩ hk0 (by decide) rfl hP hS rfl hl.1 rfl (Nat.le_of_ble_eq_true rfl) dX7_readWord_16) hS (fun H locs hP hS => ?_)
      obtain ⟨q3, eq3, hM⟩ := xb hM
      refine x_goi (x_runS (rest := []) X (kX7_isLetter l G q2.2 q2.1 q3.1 q3.2  eq3) qw116 okX7_isLetter ⟨Nat.le_of_ble_eq_true rfl, Nat.le_of_ble_eq_true rfl⟩ hP hS rfl hl.1 rfl (Nat.le_of_ble_eq_true rfl) dX7_readWord_19) hS (fun H locs hP hS => ?_)
      refine lv_if_eq (tgt := 38) hx hb dX7_readWord_22 (by decide) (fun c4 => ?_) (fun c4 => ?_)
      · replace hM := (if_pos c4).symm.trans hM
        exact wX7_readWord_38 X  q3.2 h0 _ _ _ hM hk0 hP hS (lv_sub hl [0] rfl)
      · replace hM := (if_neg c4).symm.trans hM
        refine lv_aload_n hx hb dX7_readWord_25 rfl (lv_at hl 0 rfl) ?_
        refine lv_dup hx hb dX7_readWord_26 rfl ?_
        refine fgX7_5 X hP hk0 qw111 dX7_readWord_27 ?_
        refine lv_iconst (v := 1) hx hb dX7_readWord_30 (by decide) ?_
        refine lv_iadd hx hb dX7_readWord_31 ?_
        obtain ⟨S5, eS5, hM⟩ := xlet_ex hM
        refine fpX7_5 X hP hS hk0 qw111 dX7_readWord_32 eS5 (fun H locs hP hS => ?_)
        refine lv_goto (tgt := 0) hx hb dX7_readWord_35 (by decide) ?_
        exact ih S5 h0 _ _ _ hM hk0 hP hS (lv_sub hl [0] rfl)
def mX7_readWord (S : xS) (h0 : Nat) : Option xS := lX7_readWord_0  5000 S h0
set_option maxHeartbeats 4000000 in
set_option maxRecDepth 100000 in
theorem kX7_readWord (l : Launch) (G : xG) (S : xS) (h0 : Nat) (S' : xS) (hk0 : xk Yc h0 = 7) (hM : mX7_readWord S h0 = some S') : xM l yX7_readWord cX7_readWord 4 none 5 144 G Yc [.ref (xad G h0)] S (xQv G Yc S') := by
  refine x_start (own := RX7) (by decide +kernel) rfl (Nat.le_of_ble_eq_true rfl) ?_
  intro p e s m below meth c ls X hl hP hS
  obtain ⟨hx, hb, hml, hown, hts, hr, hlk, hK, hE, hJ⟩ := id X
  have hl : lv_has ls 4 [(0, .ref (xad G h0))] := hl
  unfold mX7_readWord at hM
  exact wX7_readWord_0 X  5000 S h0 _ _ _ hM hk0 hP hS (lv_sub hl [0] rfl)

def mX7_isDigit (S : xS) (p0 : Int32) : Option (Int32 × xS) := if (p0 < 48 : Prop) then (some (0, S)) else (if (57 < p0 : Prop) then (some (0, S)) else (some (1, S)))
set_option maxHeartbeats 4000000 in
set_option maxRecDepth 100000 in
theorem kX7_isDigit (l : Launch) (G : xG) (S : xS) (p0 : Int32) (r : Int32) (S' : xS) (hM : mX7_isDigit S p0 = some (r, S')) : xM l yX7_isDigit cX7_isDigit 1 (some .boolean) 0 0 G Yc [.int p0] S (xQi G Yc r S') := by
  refine x_start (own := RX7) (by decide +kernel) rfl (Nat.le_of_ble_eq_true rfl) ?_
  intro p e s m below meth c ls X hl hP hS
  obtain ⟨hx, hb, hml, hown, hts, hr, hlk, hK, hE, hJ⟩ := id X
  have hl : lv_has ls 1 [(0, .int p0)] := hl
  unfold mX7_isDigit at hM
  refine lv_iload_n hx hb dX7_isDigit_0 rfl (lv_at hl 0 rfl) ?_
  refine lv_bipush (v := 48) hx hb dX7_isDigit_1 (by decide) ?_
  refine lv_icmp_lt (tgt := 16) hx hb dX7_isDigit_3 (by decide) (fun c1 => ?_) (fun c1 => ?_)
  · replace hM := (if_pos c1).symm.trans hM
    refine lv_iconst (v := 0) hx hb dX7_isDigit_16 (by decide) ?_
    exact x_zret X hP hS (Or.inl rfl) hM dX7_isDigit_17
  · replace hM := (if_neg c1).symm.trans hM
    refine lv_iload_n hx hb dX7_isDigit_6 rfl (lv_at hl 0 rfl) ?_
    refine lv_bipush (v := 57) hx hb dX7_isDigit_7 (by decide) ?_
    refine lv_icmp_gt (tgt := 16) hx hb dX7_isDigit_9 (by decide) (fun c2 => ?_) (fun c2 => ?_)
    · replace hM := (if_pos c2).symm.trans hM
      refine lv_iconst (v := 0) hx hb dX7_isDigit_16 (by decide) ?_
      exact x_zret X hP hS (Or.inl rfl) hM dX7_isDigit_17
    · replace hM := (if_neg c2).symm.trans hM
      refine lv_iconst (v := 1) hx hb dX7_isDigit_12 (by decide) ?_
      refine lv_goto (tgt := 17) hx hb dX7_isDigit_13 (by decide) ?_
      exact x_zret X hP hS (Or.inr rfl) hM dX7_isDigit_17

def lX7_readNumber_10 : Nat → xS → Nat → Option xS
  | 0, _, _ => none
  | n + 1, S, h0 => if ((gI S h0 1) ≤ (gI S h0 5) : Prop) then (some S) else ((mX7_byteAt S h0 (gI S h0 5)).bind fun q2 => (mX7_isDigit q2.2 q2.1).bind fun q3 => if (q3.1 = 0 : Prop) then (some q3.2) else ((mX7_byteAt q3.2 h0 (gI q3.2 h0 5)).bind fun q5 => xlet (pI q5.2 h0 4 (if ((((gI q3.2 h0 4) * 10) + q5.1) - 48) < 10000 then ((((gI q3.2 h0 4) * 10) + q5.1) - 48) else 10000)) fun S6 => xlet (pI S6 h0 5 ((gI S6 h0 5) + 1)) fun S7 => lX7_readNumber_10 n S7 h0))
set_option maxHeartbeats 4000000 in
set_option maxRecDepth 100000 in
theorem wX7_readNumber_10 {p : Program} {l : Launch} {e : Env} {s : State} {m : MethodId} {args : Array Value} {below : List Frame} {meth : Method} {c : Code} {G : xG} {S' : xS} (X : xX p s m args meth c cX7_readNumber 1 none RX7 G Yc) : ∀ (n : Nat), ∀ (S : xS) (h0 : Nat) (H : Heap) (locs : List Loc) (ls : Array Slot), lX7_readNumber_10  n S h0 = some S' → xk Yc h0 = 7 → xP G Yc S H → va_S (xA G Yc) s.heap H locs → lv_has ls 1 [(0, .ref (xad G h0))] → W p l e (xr 1 24) s m args below meth c H locs 0 0 (MQ below (xQv G Yc S') args s 0 0 (xA G Yc)) (F0 m 10 ls []) := by
  obtain ⟨hx, hb, hml, hown, hts, hr, hlk, hK, hE, hJ⟩ := id X
  intro n
  induction n with
  | zero =>
    intro S h0 H locs ls hM
    rw [lX7_readNumber_10.eq_1] at hM
    cases hM
  | succ n ih =>
    intro S h0 H locs ls hM hk0 hP hS hl
    rw [lX7_readNumber_10.eq_2] at hM
    refine lv_aload_n hx hb dX7_readNumber_10 rfl (lv_at hl 0 rfl) ?_
    refine fgX7_5 X hP hk0 qw111 dX7_readNumber_11 ?_
    refine lv_aload_n hx hb dX7_readNumber_14 rfl (lv_at hl 0 rfl) ?_
    refine fgX7_1 X hP hk0 qw109 dX7_readNumber_15 ?_
    refine lv_icmp_ge (tgt := 77) hx hb dX7_readNumber_18 (by decide) (fun c1 => ?_) (fun c1 => ?_)
    · replace hM := (if_pos c1).symm.trans hM
      exact x_vret X hP hS hM dX7_readNumber_77
    · replace hM := (if_neg c1).symm.trans hM
      refine lv_aload_n hx hb dX7_readNumber_21 rfl (lv_at hl 0 rfl) ?_
      refine lv_aload_n hx hb dX7_readNumber_22 rfl (lv_at hl 0 rfl) ?_
      refine fgX7_5 X hP hk0 qw111 dX7_readNumber_23 ?_
      obtain ⟨q2, eq2, hM⟩ := xb hM
      refine x_goi (x_runV (rest := []) X (kX7_byteAt l G S h0 (gI S h0 5) q2.1 q2.2 hk0 eq2) qw115 okX7_byteAt ⟨Nat.le_of_ble_eq_true rfl, Nat.le_of_ble_eq_true rfl⟩ hk0 (by decide) rfl hP hS rfl hl.1 rfl (Nat.le_of_ble_eq_true rfl) dX7_readNumber_26) hS (fun H locs hP hS => ?_)
      obtain ⟨q3, eq3, hM⟩ := xb hM
      refine x_goi (x_runS (rest := []) X (kX7_isDigit l G q2.2 q2.1 q3.1 q3.2  eq3) qw120 okX7_isDigit ⟨Nat.le_of_ble_eq_true rfl, Nat.le_of_ble_eq_true rfl⟩ hP hS rfl hl.1 rfl (Nat.le_of_ble_eq_true rfl) dX7_readNumber_29) hS (fun H locs hP hS => ?_)
      refine lv_if_eq (tgt := 77) hx hb dX7_readNumber_32 (by decide) (fun c4 => ?_) (fun c4 => ?_)
      · replace hM := (if_pos c4).symm.trans hM
        exact x_vret X hP hS hM dX7_readNumber_77
      · replace hM := (if_neg c4).symm.trans hM
        refine lv_aload_n hx hb dX7_readNumber_35 rfl (lv_at hl 0 rfl) ?_
        refine lv_sipush (v := 10000) hx hb dX7_readNumber_36 (by decide) ?_
        refine lv_aload_n hx hb dX7_readNumber_39 rfl (lv_at hl 0 rfl) ?_
        refine fgX7_4 X hP hk0 qw119 dX7_readNumber_40 ?_
        refine lv_bipush (v := 10) hx hb dX7_readNumber_43 (by decide) ?_
        refine lv_imul hx hb dX7_readNumber_45 ?_
        refine lv_aload_n hx hb dX7_readNumber_46 rfl (lv_at hl 0 rfl) ?_
        refine lv_aload_n hx hb dX7_readNumber_47 rfl (lv_at hl 0 rfl) ?_
        refine fgX7_5 X hP hk0 qw111 dX7_readNumber_48 ?_
        obtain ⟨q5, eq5, hM⟩ := xb hM
        refine x_goi (x_runV (rest := [.int ((gI q3.2 h0 4) * 10), .int 10000, .ref (xad G h0)]) X (kX7_byteAt l G q3.2 h0 (gI q3.2 h0 5) q5.1 q5.2 hk0 eq5) qw115 okX7_byteAt ⟨Nat.le_of_ble_eq_true rfl, Nat.le_of_ble_eq_true rfl⟩ hk0 (by decide) rfl hP hS rfl hl.1 rfl (Nat.le_of_ble_eq_true rfl) dX7_readNumber_51) hS (fun H locs hP hS => ?_)
        refine lv_iadd hx hb dX7_readNumber_54 ?_
        refine lv_bipush (v := 48) hx hb dX7_readNumber_55 (by decide) ?_
        refine lv_isub hx hb dX7_readNumber_57 ?_
        refine x_mmin X qw121 xokMmin hl.1 (Nat.le_of_ble_eq_true rfl) (Nat.le_of_ble_eq_true rfl) dX7_readNumber_58 ?_
        obtain ⟨S6, eS6, hM⟩ := xlet_ex hM
        refine fpX7_4 X hP hS hk0 qw119 dX7_readNumber_61 eS6 (fun H locs hP hS => ?_)
        refine lv_aload_n hx hb dX7_readNumber_64 rfl (lv_at hl 0 rfl) ?_
        refine lv_dup hx hb dX7_readNumber_65 rfl ?_
        refine fgX7_5 X hP hk0 qw111 dX7_readNumber_66 ?_
        refine lv_iconst (v := 1) hx hb dX7_readNumber_69 (by decide) ?_
        refine lv_iadd hx hb dX7_readNumber_70 ?_
        obtain ⟨S7, eS7, hM⟩ := xlet_ex hM
        refine fpX7_5 X hP hS hk0 qw111 dX7_readNumber_71 eS7 (fun H locs hP hS => ?_)
        refine lv_goto (tgt := 10) hx hb dX7_readNumber_74 (by decide) ?_
        exact ih S7 h0 _ _ _ hM hk0 hP hS (lv_sub hl [0] rfl)
def mX7_readNumber (S : xS) (h0 : Nat) : Option xS := xlet (pI S h0 2 2) fun S1 => xlet (pI S1 h0 4 0) fun S2 => lX7_readNumber_10  5000 S2 h0
set_option maxHeartbeats 4000000 in
set_option maxRecDepth 100000 in
theorem kX7_readNumber (l : Launch) (G : xG) (S : xS) (h0 : Nat) (S' : xS) (hk0 : xk Yc h0 = 7) (hM : mX7_readNumber S h0 = some S') : xM l yX7_readNumber cX7_readNumber 1 none 1 24 G Yc [.ref (xad G h0)] S (xQv G Yc S') := by
  refine x_start (own := RX7) (by decide +kernel) rfl (Nat.le_of_ble_eq_true rfl) ?_
  intro p e s m below meth c ls X hl hP hS
  obtain ⟨hx, hb, hml, hown, hts, hr, hlk, hK, hE, hJ⟩ := id X
  have hl : lv_has ls 1 [(0, .ref (xad G h0))] := hl
  unfold mX7_readNumber at hM
  refine lv_aload_n hx hb dX7_readNumber_0 rfl (lv_at hl 0 rfl) ?_
  refine lv_iconst (v := 2) hx hb dX7_readNumber_1 (by decide) ?_
  obtain ⟨S1, eS1, hM⟩ := xlet_ex hM
  refine fpX7_2 X hP hS hk0 qw117 dX7_readNumber_2 eS1 (fun H locs hP hS => ?_)
  refine lv_aload_n hx hb dX7_readNumber_5 rfl (lv_at hl 0 rfl) ?_
  refine lv_iconst (v := 0) hx hb dX7_readNumber_6 (by decide) ?_
  obtain ⟨S2, eS2, hM⟩ := xlet_ex hM
  refine fpX7_4 X hP hS hk0 qw119 dX7_readNumber_7 eS2 (fun H locs hP hS => ?_)
  exact wX7_readNumber_10 X  5000 S2 h0 _ _ _ hM hk0 hP hS (lv_sub hl [0] rfl)

def lX7_isSign_2 : Nat → xS → Int32 → Int32 → Option (Int32 × xS)
  | 0, _, _, _ => none
  | n + 1, S, v0, v1 => if (13 ≤ v1 : Prop) then (some (0, S)) else ((xch 1 v1).bind fun x2 => if (x2 = v0 : Prop) then (some (1, S)) else (lX7_isSign_2 n S v0 (v1 + 1)))
set_option maxHeartbeats 4000000 in
set_option maxRecDepth 100000 in
theorem wX7_isSign_2 {p : Program} {l : Launch} {e : Env} {s : State} {m : MethodId} {args : Array Value} {below : List Frame} {meth : Method} {c : Code} {G : xG} {r : Int32} {S' : xS} (X : xX p s m args meth c cX7_isSign 2 (some .boolean) RX7 G Yc) : ∀ (n : Nat), ∀ (S : xS) (v0 : Int32) (v1 : Int32) (H : Heap) (locs : List Loc) (ls : Array Slot), lX7_isSign_2  n S v0 v1 = some (r, S') → xP G Yc S H → va_S (xA G Yc) s.heap H locs → lv_has ls 2 [(0, .int v0), (1, .int v1)] → W p l e (xr 4 120) s m args below meth c H locs 0 0 (MQ below (xQi G Yc r S') args s 0 0 (xA G Yc)) (F0 m 2 ls []) := by
  obtain ⟨hx, hb, hml, hown, hts, hr, hlk, hK, hE, hJ⟩ := id X
  intro n
  induction n with
  | zero =>
    intro S v0 v1 H locs ls hM
    rw [lX7_isSign_2.eq_1] at hM
    cases hM
  | succ n ih =>
    intro S v0 v1 H locs ls hM  hP hS hl
    rw [lX7_isSign_2.eq_2] at hM
    refine lv_iload_n hx hb dX7_isSign_2 rfl (lv_at hl 1 rfl) ?_
    refine va_ldcS hx hb hown hE.2.1 dX7_isSign_3 ?_
    refine x_goi (x_runT (rest := [.int v1]) X 1 (by decide) (kJ_len l G Yc S 1 (by decide)) qw113 okJ0_length_8abf5 ⟨Nat.le_of_ble_eq_true rfl, Nat.le_of_ble_eq_true rfl⟩ hP hS rfl hl.1 rfl (Nat.le_of_ble_eq_true rfl) dX7_isSign_5) hS (fun H locs hP hS => ?_)
    refine x_topi (v := 13) (by decide) ?_
    refine lv_icmp_ge (tgt := 29) hx hb dX7_isSign_8 (by decide) (fun c1 => ?_) (fun c1 => ?_)
    · replace hM := (if_pos c1).symm.trans hM
      refine lv_iconst (v := 0) hx hb dX7_isSign_29 (by decide) ?_
      exact x_zret X hP hS (Or.inl rfl) hM dX7_isSign_30
    · replace hM := (if_neg c1).symm.trans hM
      refine va_ldcS hx hb hown hE.2.1 dX7_isSign_11 ?_
      refine lv_iload_n hx hb dX7_isSign_13 rfl (lv_at hl 1 rfl) ?_
      obtain ⟨x2, ex2, hM⟩ := xb hM
      refine x_goi (x_runT (rest := []) X 1 (by decide) (kJ_chr l G Yc S 1 v1 x2 ex2 (by decide)) qw114 okJ0_charAt_5068e ⟨Nat.le_of_ble_eq_true rfl, Nat.le_of_ble_eq_true rfl⟩ hP hS rfl hl.1 rfl (Nat.le_of_ble_eq_true rfl) dX7_isSign_14) hS (fun H locs hP hS => ?_)
      refine lv_iload_n hx hb dX7_isSign_17 rfl (lv_at hl 0 rfl) ?_
      refine lv_icmp_ne (tgt := 23) hx hb dX7_isSign_18 (by decide) (fun c3 => ?_) (fun c3 => ?_)
      · replace hM := (if_neg c3).symm.trans hM
        refine lv_iinc (v := v1 + 1) (lv' := [(1, .int (v1 + 1)), (0, .int v0)]) hx hb dX7_isSign_23 hl (k := 1) rfl (by first | rfl | exact congrArg (fun z => v1 + z) (by decide)) (by decide) rfl (fun ls hl => ?_)
        refine lv_goto (tgt := 2) hx hb dX7_isSign_26 (by decide) ?_
        exact ih S v0 (v1 + 1) _ _ _ hM  hP hS (lv_sub hl [1, 0] rfl)
      · replace hM := (if_pos c3).symm.trans hM
        refine lv_iconst (v := 1) hx hb dX7_isSign_21 (by decide) ?_
        exact x_zret X hP hS (Or.inr rfl) hM dX7_isSign_22
def mX7_isSign (S : xS) (p0 : Int32) : Option (Int32 × xS) := lX7_isSign_2  5000 S p0 0
set_option maxHeartbeats 4000000 in
set_option maxRecDepth 100000 in
theorem kX7_isSign (l : Launch) (G : xG) (S : xS) (p0 : Int32) (r : Int32) (S' : xS) (hM : mX7_isSign S p0 = some (r, S')) : xM l yX7_isSign cX7_isSign 2 (some .boolean) 4 120 G Yc [.int p0] S (xQi G Yc r S') := by
  refine x_start (own := RX7) (by decide +kernel) rfl (Nat.le_of_ble_eq_true rfl) ?_
  intro p e s m below meth c ls X hl hP hS
  obtain ⟨hx, hb, hml, hown, hts, hr, hlk, hK, hE, hJ⟩ := id X
  have hl : lv_has ls 2 [(0, .int p0)] := hl
  unfold mX7_isSign at hM
  refine lv_iconst (v := 0) hx hb dX7_isSign_0 (by decide) ?_
  refine lv_istore_n (lv' := [(1, .int 0), (0, .int p0)]) hx hb dX7_isSign_1 rfl hl (by decide) rfl (fun ls hl => ?_)
  exact wX7_isSign_2 X  5000 S p0 0 _ _ _ hM  hP hS (lv_sub hl [1, 0] rfl)

def jX7_readSign_38 (S : xS) (h0 : Nat) (v1 : Int32) : Option xS := (mX7_byteAt S h0 (gI S h0 5)).bind fun q1 => if (q1.1 = 61 : Prop) then (xlet (pI q1.2 h0 5 ((gI q1.2 h0 5) + 1)) fun S3 => if (v1 = 60 : Prop) then (xlet (pI S3 h0 2 3) fun S6 => some S6) else (xlet (pI S3 h0 2 4) fun S5 => some S5)) else (some q1.2)
set_option maxHeartbeats 4000000 in
set_option maxRecDepth 100000 in
theorem wX7_readSign_38 {p : Program} {l : Launch} {e : Env} {s : State} {m : MethodId} {args : Array Value} {below : List Frame} {meth : Method} {c : Code} {G : xG} {S' : xS} (X : xX p s m args meth c cX7_readSign 2 none RX7 G Yc) : ∀ (S : xS) (h0 : Nat) (v1 : Int32) (H : Heap) (locs : List Loc) (ls : Array Slot), jX7_readSign_38  S h0 v1 = some S' → xk Yc h0 = 7 → xP G Yc S H → va_S (xA G Yc) s.heap H locs → lv_has ls 2 [(0, .ref (xad G h0)), (1, .int v1)] → W p l e (xr 5 141) s m args below meth c H locs 0 0 (MQ below (xQv G Yc S') args s 0 0 (xA G Yc)) (F0 m 38 ls []) := by
  obtain ⟨hx, hb, hml, hown, hts, hr, hlk, hK, hE, hJ⟩ := id X
  intro S h0 v1 H locs ls hM hk0 hP hS hl
  unfold jX7_readSign_38 at hM
  refine lv_aload_n hx hb dX7_readSign_38 rfl (lv_at hl 0 rfl) ?_
  refine lv_aload_n hx hb dX7_readSign_39 rfl (lv_at hl 0 rfl) ?_
  refine fgX7_5 X hP hk0 qw111 dX7_readSign_40 ?_
  obtain ⟨q1, eq1, hM⟩ := xb hM
  refine x_goi (x_runV (rest := []) X (kX7_byteAt l G S h0 (gI S h0 5) q1.1 q1.2 hk0 eq1) qw115 okX7_byteAt ⟨Nat.le_of_ble_eq_true rfl, Nat.le_of_ble_eq_true rfl⟩ hk0 (by decide) rfl hP hS rfl hl.1 rfl (Nat.le_of_ble_eq_true rfl) dX7_readSign_43) hS (fun H locs hP hS => ?_)
  refine lv_bipush (v := 61) hx hb dX7_readSign_46 (by decide) ?_
  refine lv_icmp_ne (tgt := 76) hx hb dX7_readSign_48 (by decide) (fun c2 => ?_) (fun c2 => ?_)
  · replace hM := (if_neg c2).symm.trans hM
    exact x_vret X hP hS hM dX7_readSign_76
  · replace hM := (if_pos c2).symm.trans hM
    refine lv_aload_n hx hb dX7_readSign_51 rfl (lv_at hl 0 rfl) ?_
    refine lv_dup hx hb dX7_readSign_52 rfl ?_
    refine fgX7_5 X hP hk0 qw111 dX7_readSign_53 ?_
    refine lv_iconst (v := 1) hx hb dX7_readSign_56 (by decide) ?_
    refine lv_iadd hx hb dX7_readSign_57 ?_
    obtain ⟨S3, eS3, hM⟩ := xlet_ex hM
    refine fpX7_5 X hP hS hk0 qw111 dX7_readSign_58 eS3 (fun H locs hP hS => ?_)
    refine lv_aload_n hx hb dX7_readSign_61 rfl (lv_at hl 0 rfl) ?_
    refine lv_iload_n hx hb dX7_readSign_62 rfl (lv_at hl 1 rfl) ?_
    refine lv_bipush (v := 60) hx hb dX7_readSign_63 (by decide) ?_
    refine lv_icmp_ne (tgt := 72) hx hb dX7_readSign_65 (by decide) (fun c4 => ?_) (fun c4 => ?_)
    · replace hM := (if_neg c4).symm.trans hM
      refine lv_iconst (v := 4) hx hb dX7_readSign_72 (by decide) ?_
      obtain ⟨S5, eS5, hM⟩ := xlet_ex hM
      refine fpX7_2 X hP hS hk0 qw117 dX7_readSign_73 eS5 (fun H locs hP hS => ?_)
      exact x_vret X hP hS hM dX7_readSign_76
    · replace hM := (if_pos c4).symm.trans hM
      refine lv_iconst (v := 3) hx hb dX7_readSign_68 (by decide) ?_
      refine lv_goto (tgt := 73) hx hb dX7_readSign_69 (by decide) ?_
      obtain ⟨S6, eS6, hM⟩ := xlet_ex hM
      refine fpX7_2 X hP hS hk0 qw117 dX7_readSign_73 eS6 (fun H locs hP hS => ?_)
      exact x_vret X hP hS hM dX7_readSign_76
def jX7_readSign_23 (S : xS) (h0 : Nat) (v1 : Int32) (t0 : Int32) (t1 : Nat) : Option xS := xlet (pI S t1 2 t0) fun S1 => if (v1 = 60 : Prop) then (jX7_readSign_38  S1 h0 v1) else (if (v1 = 62 : Prop) then (jX7_readSign_38  S1 h0 v1) else (some S1))
set_option maxHeartbeats 4000000 in
set_option maxRecDepth 100000 in
theorem wX7_readSign_23 {p : Program} {l : Launch} {e : Env} {s : State} {m : MethodId} {args : Array Value} {below : List Frame} {meth : Method} {c : Code} {G : xG} {S' : xS} (X : xX p s m args meth c cX7_readSign 2 none RX7 G Yc) : ∀ (S : xS) (h0 : Nat) (v1 : Int32) (t0 : Int32) (t1 : Nat) (H : Heap) (locs : List Loc) (ls : Array Slot), jX7_readSign_23  S h0 v1 t0 t1 = some S' → xk Yc h0 = 7 → xk Yc t1 = 7 → xP G Yc S H → va_S (xA G Yc) s.heap H locs → lv_has ls 2 [(0, .ref (xad G h0)), (1, .int v1)] → W p l e (xr 5 141) s m args below meth c H locs 0 0 (MQ below (xQv G Yc S') args s 0 0 (xA G Yc)) (F0 m 23 ls [.int t0, .ref (xad G t1)]) := by
  obtain ⟨hx, hb, hml, hown, hts, hr, hlk, hK, hE, hJ⟩ := id X
  intro S h0 v1 t0 t1 H locs ls hM hk0 hkt1 hP hS hl
  unfold jX7_readSign_23 at hM
  obtain ⟨S1, eS1, hM⟩ := xlet_ex hM
  refine fpX7_2 X hP hS hkt1 qw117 dX7_readSign_23 eS1 (fun H locs hP hS => ?_)
  refine lv_iload_n hx hb dX7_readSign_26 rfl (lv_at hl 1 rfl) ?_
  refine lv_bipush (v := 60) hx hb dX7_readSign_27 (by decide) ?_
  refine lv_icmp_eq (tgt := 38) hx hb dX7_readSign_29 (by decide) (fun c2 => ?_) (fun c2 => ?_)
  · replace hM := (if_pos c2).symm.trans hM
    exact wX7_readSign_38 X  S1 h0 v1 _ _ _ hM hk0 hP hS (lv_sub hl [0, 1] rfl)
  · replace hM := (if_neg c2).symm.trans hM
    refine lv_iload_n hx hb dX7_readSign_32 rfl (lv_at hl 1 rfl) ?_
    refine lv_bipush (v := 62) hx hb dX7_readSign_33 (by decide) ?_
    refine lv_icmp_ne (tgt := 76) hx hb dX7_readSign_35 (by decide) (fun c3 => ?_) (fun c3 => ?_)
    · replace hM := (if_neg c3).symm.trans hM
      exact x_vret X hP hS hM dX7_readSign_76
    · replace hM := (if_pos c3).symm.trans hM
      exact wX7_readSign_38 X  S1 h0 v1 _ _ _ hM hk0 hP hS (lv_sub hl [0, 1] rfl)
def mX7_readSign (S : xS) (h0 : Nat) (p1 : Int32) : Option xS := xlet (pI S h0 5 ((gI S h0 5) + 1)) fun S1 => (mX7_isSign S1 p1).bind fun q2 => if (q2.1 = 0 : Prop) then (jX7_readSign_23  q2.2 h0 p1 1 h0) else (jX7_readSign_23  q2.2 h0 p1 p1 h0)
set_option maxHeartbeats 4000000 in
set_option maxRecDepth 100000 in
theorem kX7_readSign (l : Launch) (G : xG) (S : xS) (h0 : Nat) (p1 : Int32) (S' : xS) (hk0 : xk Yc h0 = 7) (hM : mX7_readSign S h0 p1 = some S') : xM l yX7_readSign cX7_readSign 2 none 5 141 G Yc [.ref (xad G h0), .int p1] S (xQv G Yc S') := by
  refine x_start (own := RX7) (by decide +kernel) rfl (Nat.le_of_ble_eq_true rfl) ?_
  intro p e s m below meth c ls X hl hP hS
  obtain ⟨hx, hb, hml, hown, hts, hr, hlk, hK, hE, hJ⟩ := id X
  have hl : lv_has ls 2 [(0, .ref (xad G h0)), (1, .int p1)] := hl
  unfold mX7_readSign at hM
  refine lv_aload_n hx hb dX7_readSign_0 rfl (lv_at hl 0 rfl) ?_
  refine lv_dup hx hb dX7_readSign_1 rfl ?_
  refine fgX7_5 X hP hk0 qw111 dX7_readSign_2 ?_
  refine lv_iconst (v := 1) hx hb dX7_readSign_5 (by decide) ?_
  refine lv_iadd hx hb dX7_readSign_6 ?_
  obtain ⟨S1, eS1, hM⟩ := xlet_ex hM
  refine fpX7_5 X hP hS hk0 qw111 dX7_readSign_7 eS1 (fun H locs hP hS => ?_)
  refine lv_aload_n hx hb dX7_readSign_10 rfl (lv_at hl 0 rfl) ?_
  refine lv_iload_n hx hb dX7_readSign_11 rfl (lv_at hl 1 rfl) ?_
  obtain ⟨q2, eq2, hM⟩ := xb hM
  refine x_goi (x_runS (rest := [.ref (xad G h0)]) X (kX7_isSign l G S1 p1 q2.1 q2.2  eq2) qw122 okX7_isSign ⟨Nat.le_of_ble_eq_true rfl, Nat.le_of_ble_eq_true rfl⟩ hP hS rfl hl.1 rfl (Nat.le_of_ble_eq_true rfl) dX7_readSign_12) hS (fun H locs hP hS => ?_)
  refine lv_if_eq (tgt := 22) hx hb dX7_readSign_15 (by decide) (fun c3 => ?_) (fun c3 => ?_)
  · replace hM := (if_pos c3).symm.trans hM
    refine lv_iconst (v := 1) hx hb dX7_readSign_22 (by decide) ?_
    exact wX7_readSign_23 X  q2.2 h0 p1 1 h0 _ _ _ hM hk0 hk0 hP hS (lv_sub hl [0, 1] rfl)
  · replace hM := (if_neg c3).symm.trans hM
    refine lv_iload_n hx hb dX7_readSign_18 rfl (lv_at hl 1 rfl) ?_
    refine lv_goto (tgt := 23) hx hb dX7_readSign_19 (by decide) ?_
    exact wX7_readSign_23 X  q2.2 h0 p1 p1 h0 _ _ _ hM hk0 hk0 hP hS (lv_sub hl [0, 1] rfl)

def jX7_advance_38 (S : xS) (h0 : Nat) : Option xS := xlet (pI S h0 3 (gI S h0 5)) fun S1 => (mX7_byteAt S1 h0 (gI S1 h0 3)).bind fun q2 => if ((gI q2.2 h0 3) < (gI q2.2 h0 1) : Prop) then ((mX7_isLetter q2.2 q2.1).bind fun q4 => if (q4.1 = 0 : Prop) then ((mX7_isDigit q4.2 q2.1).bind fun q6 => if (q6.1 = 0 : Prop) then ((mX7_readSign q6.2 h0 q2.1).bind fun S8 => some S8) else ((mX7_readNumber q6.2 h0).bind fun S9 => some S9)) else ((mX7_readWord q4.2 h0).bind fun S10 => some S10)) else (xlet (pI q2.2 h0 2 0) fun S11 => some S11)
set_option maxHeartbeats 4000000 in
set_option maxRecDepth 100000 in
theorem wX7_advance_38 {p : Program} {l : Launch} {e : Env} {s : State} {m : MethodId} {args : Array Value} {below : List Frame} {meth : Method} {c : Code} {G : xG} {S' : xS} (X : xX p s m args meth c cX7_advance 2 none RX7 G Yc) : ∀ (S : xS) (h0 : Nat) (H : Heap) (locs : List Loc) (ls : Array Slot), jX7_advance_38  S h0 = some S' → xk Yc h0 = 7 → xP G Yc S H → va_S (xA G Yc) s.heap H locs → lv_has ls 2 [(0, .ref (xad G h0))] → W p l e (xr 6 167) s m args below meth c H locs 0 0 (MQ below (xQv G Yc S') args s 0 0 (xA G Yc)) (F0 m 38 ls []) := by
  obtain ⟨hx, hb, hml, hown, hts, hr, hlk, hK, hE, hJ⟩ := id X
  intro S h0 H locs ls hM hk0 hP hS hl
  unfold jX7_advance_38 at hM
  refine lv_aload_n hx hb dX7_advance_38 rfl (lv_at hl 0 rfl) ?_
  refine lv_aload_n hx hb dX7_advance_39 rfl (lv_at hl 0 rfl) ?_
  refine fgX7_5 X hP hk0 qw111 dX7_advance_40 ?_
  obtain ⟨S1, eS1, hM⟩ := xlet_ex hM
  refine fpX7_3 X hP hS hk0 qw112 dX7_advance_43 eS1 (fun H locs hP hS => ?_)
  refine lv_aload_n hx hb dX7_advance_46 rfl (lv_at hl 0 rfl) ?_
  refine lv_aload_n hx hb dX7_advance_47 rfl (lv_at hl 0 rfl) ?_
  refine fgX7_3 X hP hk0 qw112 dX7_advance_48 ?_
  obtain ⟨q2, eq2, hM⟩ := xb hM
  refine x_goi (x_runV (rest := []) X (kX7_byteAt l G S1 h0 (gI S1 h0 3) q2.1 q2.2 hk0 eq2) qw115 okX7_byteAt ⟨Nat.le_of_ble_eq_true rfl, Nat.le_of_ble_eq_true rfl⟩ hk0 (by decide) rfl hP hS rfl hl.1 rfl (Nat.le_of_ble_eq_true rfl) dX7_advance_51) hS (fun H locs hP hS => ?_)
  refine lv_istore_n (lv' := [(1, .int q2.1), (0, .ref (xad G h0))]) hx hb dX7_advance_54 rfl hl (by decide) rfl (fun ls hl => ?_)
  refine lv_aload_n hx hb dX7_advance_55 rfl (lv_at hl 1 rfl) ?_
  refine fgX7_3 X hP hk0 qw112 dX7_advance_56 ?_
  refine lv_aload_n hx hb dX7_advance_59 rfl (lv_at hl 1 rfl) ?_
  refine fgX7_1 X hP hk0 qw109 dX7_advance_60 ?_
  refine lv_icmp_lt (tgt := 74) hx hb dX7_advance_63 (by decide) (fun c3 => ?_) (fun c3 => ?_)
  · replace hM := (if_pos c3).symm.trans hM
    refine lv_iload_n hx hb dX7_advance_74 rfl (lv_at hl 0 rfl) ?_
    obtain ⟨q4, eq4, hM⟩ := xb hM
    refine x_goi (x_runS (rest := []) X (kX7_isLetter l G q2.2 q2.1 q4.1 q4.2  eq4) qw116 okX7_isLetter ⟨Nat.le_of_ble_eq_true rfl, Nat.le_of_ble_eq_true rfl⟩ hP hS rfl hl.1 rfl (Nat.le_of_ble_eq_true rfl) dX7_advance_75) hS (fun H locs hP hS => ?_)
    refine lv_if_eq (tgt := 88) hx hb dX7_advance_78 (by decide) (fun c5 => ?_) (fun c5 => ?_)
    · replace hM := (if_pos c5).symm.trans hM
      refine lv_iload_n hx hb dX7_advance_88 rfl (lv_at hl 0 rfl) ?_
      obtain ⟨q6, eq6, hM⟩ := xb hM
      refine x_goi (x_runS (rest := []) X (kX7_isDigit l G q4.2 q2.1 q6.1 q6.2  eq6) qw120 okX7_isDigit ⟨Nat.le_of_ble_eq_true rfl, Nat.le_of_ble_eq_true rfl⟩ hP hS rfl hl.1 rfl (Nat.le_of_ble_eq_true rfl) dX7_advance_89) hS (fun H locs hP hS => ?_)
      refine lv_if_eq (tgt := 102) hx hb dX7_advance_92 (by decide) (fun c7 => ?_) (fun c7 => ?_)
      · replace hM := (if_pos c7).symm.trans hM
        refine lv_aload_n hx hb dX7_advance_102 rfl (lv_at hl 1 rfl) ?_
        refine lv_iload_n hx hb dX7_advance_103 rfl (lv_at hl 0 rfl) ?_
        obtain ⟨S8, eS8, hM⟩ := xb hM
        refine x_gov (x_runV (rest := []) X (kX7_readSign l G q6.2 h0 q2.1 S8 hk0 eS8) qw124 okX7_readSign ⟨Nat.le_of_ble_eq_true rfl, Nat.le_of_ble_eq_true rfl⟩ hk0 (by decide) rfl hP hS rfl hl.1 rfl (Nat.le_of_ble_eq_true rfl) dX7_advance_104) hS (fun H locs hP hS => ?_)
        exact x_vret X hP hS hM dX7_advance_107
      · replace hM := (if_neg c7).symm.trans hM
        refine lv_aload_n hx hb dX7_advance_95 rfl (lv_at hl 1 rfl) ?_
        obtain ⟨S9, eS9, hM⟩ := xb hM
        refine x_gov (x_runV (rest := []) X (kX7_readNumber l G q6.2 h0 S9 hk0 eS9) qw125 okX7_readNumber ⟨Nat.le_of_ble_eq_true rfl, Nat.le_of_ble_eq_true rfl⟩ hk0 (by decide) rfl hP hS rfl hl.1 rfl (Nat.le_of_ble_eq_true rfl) dX7_advance_96) hS (fun H locs hP hS => ?_)
        refine lv_goto (tgt := 107) hx hb dX7_advance_99 (by decide) ?_
        exact x_vret X hP hS hM dX7_advance_107
    · replace hM := (if_neg c5).symm.trans hM
      refine lv_aload_n hx hb dX7_advance_81 rfl (lv_at hl 1 rfl) ?_
      obtain ⟨S10, eS10, hM⟩ := xb hM
      refine x_gov (x_runV (rest := []) X (kX7_readWord l G q4.2 h0 S10 hk0 eS10) qw126 okX7_readWord ⟨Nat.le_of_ble_eq_true rfl, Nat.le_of_ble_eq_true rfl⟩ hk0 (by decide) rfl hP hS rfl hl.1 rfl (Nat.le_of_ble_eq_true rfl) dX7_advance_82) hS (fun H locs hP hS => ?_)
      refine lv_goto (tgt := 107) hx hb dX7_advance_85 (by decide) ?_
      exact x_vret X hP hS hM dX7_advance_107
  · replace hM := (if_neg c3).symm.trans hM
    refine lv_aload_n hx hb dX7_advance_66 rfl (lv_at hl 1 rfl) ?_
    refine lv_iconst (v := 0) hx hb dX7_advance_67 (by decide) ?_
    obtain ⟨S11, eS11, hM⟩ := xlet_ex hM
    refine fpX7_2 X hP hS hk0 qw117 dX7_advance_68 eS11 (fun H locs hP hS => ?_)
    refine lv_goto (tgt := 107) hx hb dX7_advance_71 (by decide) ?_
    exact x_vret X hP hS hM dX7_advance_107
def lX7_advance_0 : Nat → xS → Nat → Option xS
  | 0, _, _ => none
  | n + 1, S, h0 => if ((gI S h0 1) ≤ (gI S h0 5) : Prop) then (jX7_advance_38  S h0) else ((mX7_byteAt S h0 (gI S h0 5)).bind fun q2 => (mX7_isBlank q2.2 q2.1).bind fun q3 => if (q3.1 = 0 : Prop) then (jX7_advance_38  q3.2 h0) else (xlet (pI q3.2 h0 5 ((gI q3.2 h0 5) + 1)) fun S5 => lX7_advance_0 n S5 h0))
set_option maxHeartbeats 4000000 in
set_option maxRecDepth 100000 in
theorem wX7_advance_0 {p : Program} {l : Launch} {e : Env} {s : State} {m : MethodId} {args : Array Value} {below : List Frame} {meth : Method} {c : Code} {G : xG} {S' : xS} (X : xX p s m args meth c cX7_advance 2 none RX7 G Yc) : ∀ (n : Nat), ∀ (S : xS) (h0 : Nat) (H : Heap) (locs : List Loc) (ls : Array Slot), lX7_advance_0  n S h0 = some S' → xk Yc h0 = 7 → xP G Yc S H → va_S (xA G Yc) s.heap H locs → lv_has ls 2 [(0, .ref (xad G h0))] → W p l e (xr 6 167) s m args below meth c H locs 0 0 (MQ below (xQv G Yc S') args s 0 0 (xA G Yc)) (F0 m 0 ls []) := by
  obtain ⟨hx, hb, hml, hown, hts, hr, hlk, hK, hE, hJ⟩ := id X
  intro n
  induction n with
  | zero =>
    intro S h0 H locs ls hM
    rw [lX7_advance_0.eq_1] at hM
    cases hM
  | succ n ih =>
    intro S h0 H locs ls hM hk0 hP hS hl
    rw [lX7_advance_0.eq_2] at hM
    refine lv_aload_n hx hb dX7_advance_0 rfl (lv_at hl 0 rfl) ?_
    refine fgX7_5 X hP hk0 qw111 dX7_advance_1 ?_
    refine lv_aload_n hx hb dX7_advance_4 rfl (lv_at hl 0 rfl) ?_
    refine fgX7_1 X hP hk0 qw109 dX7_advance_5 ?_
    refine lv_icmp_ge (tgt := 38) hx hb dX7_advance_8 (by decide) (fun c1 => ?_) (fun c1 => ?_)
    · replace hM := (if_pos c1).symm.trans hM
      exact wX7_advance_38 X  S h0 _ _ _ hM hk0 hP hS (lv_sub hl [0] rfl)
    · replace hM := (if_neg c1).symm.trans hM
      refine lv_aload_n hx hb dX7_advance_11 rfl (lv_at hl 0 rfl) ?_
      refine lv_aload_n hx hb dX7_advance_12 rfl (lv_at hl 0 rfl) ?_
      refine fgX7_5 X hP hk0 qw111 dX7_advance_13 ?_
      obtain ⟨q2, eq2, hM⟩ := xb hM
      refine x_goi (x_runV (rest := []) X (kX7_byteAt l G S h0 (gI S h0 5) q2.1 q2.2 hk0 eq2) qw115 okX7_byteAt ⟨Nat.le_of_ble_eq_true rfl, Nat.le_of_ble_eq_true rfl⟩ hk0 (by decide) rfl hP hS rfl hl.1 rfl (Nat.le_of_ble_eq_true rfl) dX7_advance_16) hS (fun H locs hP hS => ?_)
      obtain ⟨q3, eq3, hM⟩ := xb hM
      refine x_goi (x_runS (rest := []) X (kX7_isBlank l G q2.2 q2.1 q3.1 q3.2  eq3) qw123 okX7_isBlank ⟨Nat.le_of_ble_eq_true rfl, Nat.le_of_ble_eq_true rfl⟩ hP hS rfl hl.1 rfl (Nat.le_of_ble_eq_true rfl) dX7_advance_19) hS (fun H locs hP hS => ?_)
      refine lv_if_eq (tgt := 38) hx hb dX7_advance_22 (by decide) (fun c4 => ?_) (fun c4 => ?_)
      · replace hM := (if_pos c4).symm.trans hM
        exact wX7_advance_38 X  q3.2 h0 _ _ _ hM hk0 hP hS (lv_sub hl [0] rfl)
      · replace hM := (if_neg c4).symm.trans hM
        refine lv_aload_n hx hb dX7_advance_25 rfl (lv_at hl 0 rfl) ?_
        refine lv_dup hx hb dX7_advance_26 rfl ?_
        refine fgX7_5 X hP hk0 qw111 dX7_advance_27 ?_
        refine lv_iconst (v := 1) hx hb dX7_advance_30 (by decide) ?_
        refine lv_iadd hx hb dX7_advance_31 ?_
        obtain ⟨S5, eS5, hM⟩ := xlet_ex hM
        refine fpX7_5 X hP hS hk0 qw111 dX7_advance_32 eS5 (fun H locs hP hS => ?_)
        refine lv_goto (tgt := 0) hx hb dX7_advance_35 (by decide) ?_
        exact ih S5 h0 _ _ _ hM hk0 hP hS (lv_sub hl [0] rfl)
def mX7_advance (S : xS) (h0 : Nat) : Option xS := lX7_advance_0  5000 S h0
set_option maxHeartbeats 4000000 in
set_option maxRecDepth 100000 in
theorem kX7_advance (l : Launch) (G : xG) (S : xS) (h0 : Nat) (S' : xS) (hk0 : xk Yc h0 = 7) (hM : mX7_advance S h0 = some S') : xM l yX7_advance cX7_advance 2 none 6 167 G Yc [.ref (xad G h0)] S (xQv G Yc S') := by
  refine x_start (own := RX7) (by decide +kernel) rfl (Nat.le_of_ble_eq_true rfl) ?_
  intro p e s m below meth c ls X hl hP hS
  obtain ⟨hx, hb, hml, hown, hts, hr, hlk, hK, hE, hJ⟩ := id X
  have hl : lv_has ls 2 [(0, .ref (xad G h0))] := hl
  unfold mX7_advance at hM
  exact wX7_advance_0 X  5000 S h0 _ _ _ hM hk0 hP hS (lv_sub hl [0] rfl)

def mX7_rewind (S : xS) (h0 : Nat) : Option xS := xlet (pI S h0 5 0) fun S1 => (mX7_advance S1 h0).bind fun S2 => some S2
set_option maxHeartbeats 4000000 in
set_option maxRecDepth 100000 in
theorem kX7_rewind (l : Launch) (G : xG) (S : xS) (h0 : Nat) (S' : xS) (hk0 : xk Yc h0 = 7) (hM : mX7_rewind S h0 = some S') : xM l yX7_rewind cX7_rewind 1 none 7 188 G Yc [.ref (xad G h0)] S (xQv G Yc S') := by
  refine x_start (own := RX7) (by decide +kernel) rfl (Nat.le_of_ble_eq_true rfl) ?_
  intro p e s m below meth c ls X hl hP hS
  obtain ⟨hx, hb, hml, hown, hts, hr, hlk, hK, hE, hJ⟩ := id X
  have hl : lv_has ls 1 [(0, .ref (xad G h0))] := hl
  unfold mX7_rewind at hM
  refine lv_aload_n hx hb dX7_rewind_0 rfl (lv_at hl 0 rfl) ?_
  refine lv_iconst (v := 0) hx hb dX7_rewind_1 (by decide) ?_
  obtain ⟨S1, eS1, hM⟩ := xlet_ex hM
  refine fpX7_5 X hP hS hk0 qw111 dX7_rewind_2 eS1 (fun H locs hP hS => ?_)
  refine lv_aload_n hx hb dX7_rewind_5 rfl (lv_at hl 0 rfl) ?_
  obtain ⟨S2, eS2, hM⟩ := xb hM
  refine x_gov (x_runV (rest := []) X (kX7_advance l G S1 h0 S2 hk0 eS2) qw127 okX7_advance ⟨Nat.le_of_ble_eq_true rfl, Nat.le_of_ble_eq_true rfl⟩ hk0 (by decide) rfl hP hS rfl hl.1 rfl (Nat.le_of_ble_eq_true rfl) dX7_rewind_6) hS (fun H locs hP hS => ?_)
  exact x_vret X hP hS hM dX7_rewind_9

def mX4_fail (S : xS) (h0 : Nat) (p1 : Int32) : Option xS := if ((gI S h0 4) = 0 : Prop) then (xlet (pI S h0 4 p1) fun S2 => (dO Yc (gR S2 h0 0) 7).bind fun d3 => xlet (pI S2 h0 5 (gI S2 d3 3)) fun S4 => some S4) else (some S)
set_option maxHeartbeats 4000000 in
set_option maxRecDepth 100000 in
theorem kX4_fail (l : Launch) (G : xG) (S : xS) (h0 : Nat) (p1 : Int32) (S' : xS) (hk0 : xk Yc h0 = 4) (hM : mX4_fail S h0 p1 = some S') : xM l yX4_fail cX4_fail 2 none 0 0 G Yc [.ref (xad G h0), .int p1] S (xQv G Yc S') := by
  refine x_start (own := RX4) (by decide +kernel) rfl (Nat.le_of_ble_eq_true rfl) ?_
  intro p e s m below meth c ls X hl hP hS
  obtain ⟨hx, hb, hml, hown, hts, hr, hlk, hK, hE, hJ⟩ := id X
  have hl : lv_has ls 2 [(0, .ref (xad G h0)), (1, .int p1)] := hl
  unfold mX4_fail at hM
  refine lv_aload_n hx hb dX4_fail_0 rfl (lv_at hl 0 rfl) ?_
  refine fgX4_4 X hP hk0 qw128 dX4_fail_1 ?_
  refine lv_if_ne (tgt := 23) hx hb dX4_fail_4 (by decide) (fun c1 => ?_) (fun c1 => ?_)
  · replace hM := (if_neg c1).symm.trans hM
    exact x_vret X hP hS hM dX4_fail_23
  · replace hM := (if_pos c1).symm.trans hM
    refine lv_aload_n hx hb dX4_fail_7 rfl (lv_at hl 0 rfl) ?_
    refine lv_iload_n hx hb dX4_fail_8 rfl (lv_at hl 1 rfl) ?_
    obtain ⟨S2, eS2, hM⟩ := xlet_ex hM
    refine fpX4_4 X hP hS hk0 qw128 dX4_fail_9 eS2 (fun H locs hP hS => ?_)
    refine lv_aload_n hx hb dX4_fail_12 rfl (lv_at hl 0 rfl) ?_
    refine lv_aload_n hx hb dX4_fail_13 rfl (lv_at hl 0 rfl) ?_
    obtain ⟨d3, ed3, hM⟩ := xb hM
    refine fdX4_0 X hP hk0 qw129 dX4_fail_14 ed3 ?_
    refine fgX7_3 X hP (dO_k ed3) qw130 dX4_fail_17 ?_
    obtain ⟨S4, eS4, hM⟩ := xlet_ex hM
    refine fpX4_5 X hP hS hk0 qw131 dX4_fail_20 eS4 (fun H locs hP hS => ?_)
    exact x_vret X hP hS hM dX4_fail_23

def jX4_takeNumber_46 (S : xS) (h0 : Nat) (v3 : Int32) : Option (Int32 × xS) := (mX4_fail S h0 2).bind fun S1 => some (v3, S1)
set_option maxHeartbeats 4000000 in
set_option maxRecDepth 100000 in
theorem wX4_takeNumber_46 {p : Program} {l : Launch} {e : Env} {s : State} {m : MethodId} {args : Array Value} {below : List Frame} {meth : Method} {c : Code} {G : xG} {r : Int32} {S' : xS} (X : xX p s m args meth c cX4_takeNumber 4 (some .int) RX4 G Yc) : ∀ (S : xS) (h0 : Nat) (v3 : Int32) (H : Heap) (locs : List Loc) (ls : Array Slot), jX4_takeNumber_46  S h0 v3 = some (r, S') → xk Yc h0 = 4 → xP G Yc S H → va_S (xA G Yc) s.heap H locs → lv_has ls 4 [(0, .ref (xad G h0)), (3, .int v3)] → W p l e (xr 7 188) s m args below meth c H locs 0 0 (MQ below (xQi G Yc r S') args s 0 0 (xA G Yc)) (F0 m 46 ls []) := by
  obtain ⟨hx, hb, hml, hown, hts, hr, hlk, hK, hE, hJ⟩ := id X
  intro S h0 v3 H locs ls hM hk0 hP hS hl
  unfold jX4_takeNumber_46 at hM
  refine lv_aload_n hx hb dX4_takeNumber_46 rfl (lv_at hl 0 rfl) ?_
  refine lv_iconst (v := 2) hx hb dX4_takeNumber_47 (by decide) ?_
  obtain ⟨S1, eS1, hM⟩ := xb hM
  refine x_gov (x_runV (rest := []) X (kX4_fail l G S h0 2 S1 hk0 eS1) qw135 okX4_fail ⟨Nat.le_of_ble_eq_true rfl, Nat.le_of_ble_eq_true rfl⟩ hk0 (by decide) rfl hP hS rfl hl.1 rfl (Nat.le_of_ble_eq_true rfl) dX4_takeNumber_48) hS (fun H locs hP hS => ?_)
  refine lv_goto (tgt := 61) hx hb dX4_takeNumber_51 (by decide) ?_
  refine lv_iload_n hx hb dX4_takeNumber_61 rfl (lv_at hl 1 rfl) ?_
  exact x_iret X hP hS hM dX4_takeNumber_62
def mX4_takeNumber (S : xS) (h0 : Nat) (p1 : Int32) (p2 : Int32) : Option (Int32 × xS) := if ((gI S h0 4) = 0 : Prop) then ((dO Yc (gR S h0 0) 7).bind fun d2 => (dO Yc (gR S h0 0) 7).bind fun d3 => if ((gI S d3 2) = 2 : Prop) then (if ((gI S d2 4) < p1 : Prop) then (jX4_takeNumber_46  S h0 (gI S d2 4)) else (if ((gI S d2 4) ≤ p2 : Prop) then ((dO Yc (gR S h0 0) 7).bind fun d7 => (mX7_advance S d7).bind fun S8 => some (gI S d2 4, S8)) else (jX4_takeNumber_46  S h0 (gI S d2 4)))) else ((mX4_fail S h0 1).bind fun S9 => some (gI S d2 4, S9))) else (some (0, S))
set_option maxHeartbeats 4000000 in
set_option maxRecDepth 100000 in
theorem kX4_takeNumber (l : Launch) (G : xG) (S : xS) (h0 : Nat) (p1 : Int32) (p2 : Int32) (r : Int32) (S' : xS) (hk0 : xk Yc h0 = 4) (hM : mX4_takeNumber S h0 p1 p2 = some (r, S')) : xM l yX4_takeNumber cX4_takeNumber 4 (some .int) 7 188 G Yc [.ref (xad G h0), .int p1, .int p2] S (xQi G Yc r S') := by
  refine x_start (own := RX4) (by decide +kernel) rfl (Nat.le_of_ble_eq_true rfl) ?_
  intro p e s m below meth c ls X hl hP hS
  obtain ⟨hx, hb, hml, hown, hts, hr, hlk, hK, hE, hJ⟩ := id X
  have hl : lv_has ls 4 [(0, .ref (xad G h0)), (1, .int p1), (2, .int p2)] := hl
  unfold mX4_takeNumber at hM
  refine lv_aload_n hx hb dX4_takeNumber_0 rfl (lv_at hl 0 rfl) ?_
  refine fgX4_4 X hP hk0 qw128 dX4_takeNumber_1 ?_
  refine lv_if_eq (tgt := 9) hx hb dX4_takeNumber_4 (by decide) (fun c1 => ?_) (fun c1 => ?_)
  · replace hM := (if_pos c1).symm.trans hM
    refine lv_aload_n hx hb dX4_takeNumber_9 rfl (lv_at hl 0 rfl) ?_
    obtain ⟨d2, ed2, hM⟩ := xb hM
    refine fdX4_0 X hP hk0 qw129 dX4_takeNumber_10 ed2 ?_
    refine fgX7_4 X hP (dO_k ed2) qw132 dX4_takeNumber_13 ?_
    refine lv_istore_n (lv' := [(3, .int (gI S d2 4)), (0, .ref (xad G h0)), (1, .int p1), (2, .int p2)]) hx hb dX4_takeNumber_16 rfl hl (by decide) rfl (fun ls hl => ?_)
    refine lv_aload_n hx hb dX4_takeNumber_17 rfl (lv_at hl 1 rfl) ?_
    obtain ⟨d3, ed3, hM⟩ := xb hM
    refine fdX4_0 X hP hk0 qw129 dX4_takeNumber_18 ed3 ?_
    refine fgX7_2 X hP (dO_k ed3) qw133 dX4_takeNumber_21 ?_
    refine lv_iconst (v := 2) hx hb dX4_takeNumber_24 (by decide) ?_
    refine lv_icmp_eq (tgt := 36) hx hb dX4_takeNumber_25 (by decide) (fun c4 => ?_) (fun c4 => ?_)
    · replace hM := (if_pos c4).symm.trans hM
      refine lv_iload_n hx hb dX4_takeNumber_36 rfl (lv_at hl 0 rfl) ?_
      refine lv_iload_n hx hb dX4_takeNumber_37 rfl (lv_at hl 2 rfl) ?_
      refine lv_icmp_lt (tgt := 46) hx hb dX4_takeNumber_38 (by decide) (fun c5 => ?_) (fun c5 => ?_)
      · replace hM := (if_pos c5).symm.trans hM
        exact wX4_takeNumber_46 X  S h0 (gI S d2 4) _ _ _ hM hk0 hP hS (lv_sub hl [1, 0] rfl)
      · replace hM := (if_neg c5).symm.trans hM
        refine lv_iload_n hx hb dX4_takeNumber_41 rfl (lv_at hl 0 rfl) ?_
        refine lv_iload_n hx hb dX4_takeNumber_42 rfl (lv_at hl 3 rfl) ?_
        refine lv_icmp_le (tgt := 54) hx hb dX4_takeNumber_43 (by decide) (fun c6 => ?_) (fun c6 => ?_)
        · replace hM := (if_pos c6).symm.trans hM
          refine lv_aload_n hx hb dX4_takeNumber_54 rfl (lv_at hl 1 rfl) ?_
          obtain ⟨d7, ed7, hM⟩ := xb hM
          refine fdX4_0 X hP hk0 qw129 dX4_takeNumber_55 ed7 ?_
          obtain ⟨S8, eS8, hM⟩ := xb hM
          refine x_gov (x_runV (rest := []) X (kX7_advance l G S d7 S8 (dO_k ed7) eS8) qw134 okX7_advance ⟨Nat.le_of_ble_eq_true rfl, Nat.le_of_ble_eq_true rfl⟩ (dO_k ed7) (by decide) rfl hP hS rfl hl.1 rfl (Nat.le_of_ble_eq_true rfl) dX4_takeNumber_58) hS (fun H locs hP hS => ?_)
          refine lv_iload_n hx hb dX4_takeNumber_61 rfl (lv_at hl 0 rfl) ?_
          exact x_iret X hP hS hM dX4_takeNumber_62
        · replace hM := (if_neg c6).symm.trans hM
          exact wX4_takeNumber_46 X  S h0 (gI S d2 4) _ _ _ hM hk0 hP hS (lv_sub hl [1, 0] rfl)
    · replace hM := (if_neg c4).symm.trans hM
      refine lv_aload_n hx hb dX4_takeNumber_28 rfl (lv_at hl 1 rfl) ?_
      refine lv_iconst (v := 1) hx hb dX4_takeNumber_29 (by decide) ?_
      obtain ⟨S9, eS9, hM⟩ := xb hM
      refine x_gov (x_runV (rest := []) X (kX4_fail l G S h0 1 S9 hk0 eS9) qw135 okX4_fail ⟨Nat.le_of_ble_eq_true rfl, Nat.le_of_ble_eq_true rfl⟩ hk0 (by decide) rfl hP hS rfl hl.1 rfl (Nat.le_of_ble_eq_true rfl) dX4_takeNumber_30) hS (fun H locs hP hS => ?_)
      refine lv_goto (tgt := 61) hx hb dX4_takeNumber_33 (by decide) ?_
      refine lv_iload_n hx hb dX4_takeNumber_61 rfl (lv_at hl 0 rfl) ?_
      exact x_iret X hP hS hM dX4_takeNumber_62
  · replace hM := (if_neg c1).symm.trans hM
    refine lv_iconst (v := 0) hx hb dX4_takeNumber_7 (by decide) ?_
    exact x_iret X hP hS hM dX4_takeNumber_8

def mX6_put (S : xS) (h0 : Nat) (p1 : Int32) (p2 : Int32) : Option xS := if ((gI S h0 2) < 0 : Prop) then (some S) else (if (300 ≤ (gI S h0 2) : Prop) then (some S) else ((dO Yc (gR S h0 0) 10).bind fun d3 => (sI Yc S d3 (gI S h0 2) p1).bind fun S4 => (dO Yc (gR S4 h0 1) 10).bind fun d5 => (sI Yc S4 d5 (gI S4 h0 2) p2).bind fun S6 => xlet (pI S6 h0 2 ((gI S6 h0 2) + 1)) fun S7 => some S7))
set_option maxHeartbeats 4000000 in
set_option maxRecDepth 100000 in
theorem kX6_put (l : Launch) (G : xG) (S : xS) (h0 : Nat) (p1 : Int32) (p2 : Int32) (S' : xS) (hk0 : xk Yc h0 = 6) (hM : mX6_put S h0 p1 p2 = some S') : xM l yX6_put cX6_put 3 none 0 0 G Yc [.ref (xad G h0), .int p1, .int p2] S (xQv G Yc S') := by
  refine x_start (own := RX6) (by decide +kernel) rfl (Nat.le_of_ble_eq_true rfl) ?_
  intro p e s m below meth c ls X hl hP hS
  obtain ⟨hx, hb, hml, hown, hts, hr, hlk, hK, hE, hJ⟩ := id X
  have hl : lv_has ls 3 [(0, .ref (xad G h0)), (1, .int p1), (2, .int p2)] := hl
  unfold mX6_put at hM
  refine lv_aload_n hx hb dX6_put_0 rfl (lv_at hl 0 rfl) ?_
  refine fgX6_2 X hP hk0 qw107 dX6_put_1 ?_
  refine lv_if_lt (tgt := 47) hx hb dX6_put_4 (by decide) (fun c1 => ?_) (fun c1 => ?_)
  · replace hM := (if_pos c1).symm.trans hM
    exact x_vret X hP hS hM dX6_put_47
  · replace hM := (if_neg c1).symm.trans hM
    refine lv_aload_n hx hb dX6_put_7 rfl (lv_at hl 0 rfl) ?_
    refine fgX6_2 X hP hk0 qw107 dX6_put_8 ?_
    refine lv_sipush (v := 300) hx hb dX6_put_11 (by decide) ?_
    refine lv_icmp_ge (tgt := 47) hx hb dX6_put_14 (by decide) (fun c2 => ?_) (fun c2 => ?_)
    · replace hM := (if_pos c2).symm.trans hM
      exact x_vret X hP hS hM dX6_put_47
    · replace hM := (if_neg c2).symm.trans hM
      refine lv_aload_n hx hb dX6_put_17 rfl (lv_at hl 0 rfl) ?_
      obtain ⟨d3, ed3, hM⟩ := xb hM
      refine fdX6_0 X hP hk0 qw136 dX6_put_18 ed3 ?_
      refine lv_aload_n hx hb dX6_put_21 rfl (lv_at hl 0 rfl) ?_
      refine fgX6_2 X hP hk0 qw107 dX6_put_22 ?_
      refine lv_iload_n hx hb dX6_put_25 rfl (lv_at hl 1 rfl) ?_
      obtain ⟨S4, eS4, hM⟩ := xb hM
      refine x_iast X hP hS (dO_k ed3) eS4 dX6_put_26 (fun H locs hP hS => ?_)
      refine lv_aload_n hx hb dX6_put_27 rfl (lv_at hl 0 rfl) ?_
      obtain ⟨d5, ed5, hM⟩ := xb hM
      refine fdX6_1 X hP hk0 qw137 dX6_put_28 ed5 ?_
      refine lv_aload_n hx hb dX6_put_31 rfl (lv_at hl 0 rfl) ?_
      refine fgX6_2 X hP hk0 qw107 dX6_put_32 ?_
      refine lv_iload_n hx hb dX6_put_35 rfl (lv_at hl 2 rfl) ?_
      obtain ⟨S6, eS6, hM⟩ := xb hM
      refine x_iast X hP hS (dO_k ed5) eS6 dX6_put_36 (fun H locs hP hS => ?_)
      refine lv_aload_n hx hb dX6_put_37 rfl (lv_at hl 0 rfl) ?_
      refine lv_dup hx hb dX6_put_38 rfl ?_
      refine fgX6_2 X hP hk0 qw107 dX6_put_39 ?_
      refine lv_iconst (v := 1) hx hb dX6_put_42 (by decide) ?_
      refine lv_iadd hx hb dX6_put_43 ?_
      obtain ⟨S7, eS7, hM⟩ := xlet_ex hM
      refine fpX6_2 X hP hS hk0 qw107 dX6_put_44 eS7 (fun H locs hP hS => ?_)
      exact x_vret X hP hS hM dX6_put_47

def jX4_readName_20 (S : xS) (h0 : Nat) (v1 : Int32) : Option xS := (dO Yc (gR S h0 1) 6).bind fun d1 => (mX6_put S d1 1 (v1 - 212)).bind fun S2 => (dO Yc (gR S2 h0 0) 7).bind fun d3 => (mX7_advance S2 d3).bind fun S4 => some S4
set_option maxHeartbeats 4000000 in
set_option maxRecDepth 100000 in
theorem wX4_readName_20 {p : Program} {l : Launch} {e : Env} {s : State} {m : MethodId} {args : Array Value} {below : List Frame} {meth : Method} {c : Code} {G : xG} {S' : xS} (X : xX p s m args meth c cX4_readName 2 none RX4 G Yc) : ∀ (S : xS) (h0 : Nat) (v1 : Int32) (H : Heap) (locs : List Loc) (ls : Array Slot), jX4_readName_20  S h0 v1 = some S' → xk Yc h0 = 4 → xP G Yc S H → va_S (xA G Yc) s.heap H locs → lv_has ls 2 [(0, .ref (xad G h0)), (1, .int v1)] → W p l e (xr 7 188) s m args below meth c H locs 0 0 (MQ below (xQv G Yc S') args s 0 0 (xA G Yc)) (F0 m 20 ls []) := by
  obtain ⟨hx, hb, hml, hown, hts, hr, hlk, hK, hE, hJ⟩ := id X
  intro S h0 v1 H locs ls hM hk0 hP hS hl
  unfold jX4_readName_20 at hM
  refine lv_aload_n hx hb dX4_readName_20 rfl (lv_at hl 0 rfl) ?_
  obtain ⟨d1, ed1, hM⟩ := xb hM
  refine fdX4_1 X hP hk0 qw139 dX4_readName_21 ed1 ?_
  refine lv_iconst (v := 1) hx hb dX4_readName_24 (by decide) ?_
  refine lv_iload_n hx hb dX4_readName_25 rfl (lv_at hl 1 rfl) ?_
  refine lv_sipush (v := 212) hx hb dX4_readName_26 (by decide) ?_
  refine lv_isub hx hb dX4_readName_29 ?_
  obtain ⟨S2, eS2, hM⟩ := xb hM
  refine x_gov (x_runV (rest := []) X (kX6_put l G S d1 1 (v1 - 212) S2 (dO_k ed1) eS2) qw140 okX6_put ⟨Nat.le_of_ble_eq_true rfl, Nat.le_of_ble_eq_true rfl⟩ (dO_k ed1) (by decide) rfl hP hS rfl hl.1 rfl (Nat.le_of_ble_eq_true rfl) dX4_readName_30) hS (fun H locs hP hS => ?_)
  refine lv_aload_n hx hb dX4_readName_33 rfl (lv_at hl 0 rfl) ?_
  obtain ⟨d3, ed3, hM⟩ := xb hM
  refine fdX4_0 X hP hk0 qw129 dX4_readName_34 ed3 ?_
  obtain ⟨S4, eS4, hM⟩ := xb hM
  refine x_gov (x_runV (rest := []) X (kX7_advance l G S2 d3 S4 (dO_k ed3) eS4) qw134 okX7_advance ⟨Nat.le_of_ble_eq_true rfl, Nat.le_of_ble_eq_true rfl⟩ (dO_k ed3) (by decide) rfl hP hS rfl hl.1 rfl (Nat.le_of_ble_eq_true rfl) dX4_readName_37) hS (fun H locs hP hS => ?_)
  exact x_vret X hP hS hM dX4_readName_40
def mX4_readName (S : xS) (h0 : Nat) (p1 : Int32) : Option xS := if (p1 ≤ 214 : Prop) then (jX4_readName_20  S h0 p1) else (if ((gI S h0 2) = 0 : Prop) then ((mX4_fail S h0 5).bind fun S3 => some S3) else (jX4_readName_20  S h0 p1))
set_option maxHeartbeats 4000000 in
set_option maxRecDepth 100000 in
theorem kX4_readName (l : Launch) (G : xG) (S : xS) (h0 : Nat) (p1 : Int32) (S' : xS) (hk0 : xk Yc h0 = 4) (hM : mX4_readName S h0 p1 = some S') : xM l yX4_readName cX4_readName 2 none 7 188 G Yc [.ref (xad G h0), .int p1] S (xQv G Yc S') := by
  refine x_start (own := RX4) (by decide +kernel) rfl (Nat.le_of_ble_eq_true rfl) ?_
  intro p e s m below meth c ls X hl hP hS
  obtain ⟨hx, hb, hml, hown, hts, hr, hlk, hK, hE, hJ⟩ := id X
  have hl : lv_has ls 2 [(0, .ref (xad G h0)), (1, .int p1)] := hl
  unfold mX4_readName at hM
  refine lv_iload_n hx hb dX4_readName_0 rfl (lv_at hl 1 rfl) ?_
  refine lv_sipush (v := 214) hx hb dX4_readName_1 (by decide) ?_
  refine lv_icmp_le (tgt := 20) hx hb dX4_readName_4 (by decide) (fun c1 => ?_) (fun c1 => ?_)
  · replace hM := (if_pos c1).symm.trans hM
    exact wX4_readName_20 X  S h0 p1 _ _ _ hM hk0 hP hS (lv_sub hl [0, 1] rfl)
  · replace hM := (if_neg c1).symm.trans hM
    refine lv_aload_n hx hb dX4_readName_7 rfl (lv_at hl 0 rfl) ?_
    refine fgX4_2 X hP hk0 qw138 dX4_readName_8 ?_
    refine lv_if_ne (tgt := 20) hx hb dX4_readName_11 (by decide) (fun c2 => ?_) (fun c2 => ?_)
    · replace hM := (if_neg c2).symm.trans hM
      exact wX4_readName_20 X  S h0 p1 _ _ _ hM hk0 hP hS (lv_sub hl [0, 1] rfl)
    · replace hM := (if_pos c2).symm.trans hM
      refine lv_aload_n hx hb dX4_readName_14 rfl (lv_at hl 0 rfl) ?_
      refine lv_iconst (v := 5) hx hb dX4_readName_15 (by decide) ?_
      obtain ⟨S3, eS3, hM⟩ := xb hM
      refine x_gov (x_runV (rest := []) X (kX4_fail l G S h0 5 S3 hk0 eS3) qw135 okX4_fail ⟨Nat.le_of_ble_eq_true rfl, Nat.le_of_ble_eq_true rfl⟩ hk0 (by decide) rfl hP hS rfl hl.1 rfl (Nat.le_of_ble_eq_true rfl) dX4_readName_16) hS (fun H locs hP hS => ?_)
      exact x_vret X hP hS hM dX4_readName_19

def mX4_opens (S : xS) (h0 : Nat) (p1 : Int32) : Option (Int32 × xS) := if (p1 < 8 : Prop) then ((dO Yc (gR S h0 0) 7).bind fun d2 => (mX7_advance S d2).bind fun S3 => some (1, S3)) else ((mX4_fail S h0 3).bind fun S4 => some (0, S4))
set_option maxHeartbeats 4000000 in
set_option maxRecDepth 100000 in
theorem kX4_opens (l : Launch) (G : xG) (S : xS) (h0 : Nat) (p1 : Int32) (r : Int32) (S' : xS) (hk0 : xk Yc h0 = 4) (hM : mX4_opens S h0 p1 = some (r, S')) : xM l yX4_opens cX4_opens 2 (some .boolean) 7 188 G Yc [.ref (xad G h0), .int p1] S (xQi G Yc r S') := by
  refine x_start (own := RX4) (by decide +kernel) rfl (Nat.le_of_ble_eq_true rfl) ?_
  intro p e s m below meth c ls X hl hP hS
  obtain ⟨hx, hb, hml, hown, hts, hr, hlk, hK, hE, hJ⟩ := id X
  have hl : lv_has ls 2 [(0, .ref (xad G h0)), (1, .int p1)] := hl
  unfold mX4_opens at hM
  refine lv_iload_n hx hb dX4_opens_0 rfl (lv_at hl 1 rfl) ?_
  refine lv_bipush (v := 8) hx hb dX4_opens_1 (by decide) ?_
  refine lv_icmp_lt (tgt := 13) hx hb dX4_opens_3 (by decide) (fun c1 => ?_) (fun c1 => ?_)
  · replace hM := (if_pos c1).symm.trans hM
    refine lv_aload_n hx hb dX4_opens_13 rfl (lv_at hl 0 rfl) ?_
    obtain ⟨d2, ed2, hM⟩ := xb hM
    refine fdX4_0 X hP hk0 qw129 dX4_opens_14 ed2 ?_
    obtain ⟨S3, eS3, hM⟩ := xb hM
    refine x_gov (x_runV (rest := []) X (kX7_advance l G S d2 S3 (dO_k ed2) eS3) qw134 okX7_advance ⟨Nat.le_of_ble_eq_true rfl, Nat.le_of_ble_eq_true rfl⟩ (dO_k ed2) (by decide) rfl hP hS rfl hl.1 rfl (Nat.le_of_ble_eq_true rfl) dX4_opens_17) hS (fun H locs hP hS => ?_)
    refine lv_iconst (v := 1) hx hb dX4_opens_20 (by decide) ?_
    exact x_zret X hP hS (Or.inr rfl) hM dX4_opens_21
  · replace hM := (if_neg c1).symm.trans hM
    refine lv_aload_n hx hb dX4_opens_6 rfl (lv_at hl 0 rfl) ?_
    refine lv_iconst (v := 3) hx hb dX4_opens_7 (by decide) ?_
    obtain ⟨S4, eS4, hM⟩ := xb hM
    refine x_gov (x_runV (rest := []) X (kX4_fail l G S h0 3 S4 hk0 eS4) qw135 okX4_fail ⟨Nat.le_of_ble_eq_true rfl, Nat.le_of_ble_eq_true rfl⟩ hk0 (by decide) rfl hP hS rfl hl.1 rfl (Nat.le_of_ble_eq_true rfl) dX4_opens_8) hS (fun H locs hP hS => ?_)
    refine lv_iconst (v := 0) hx hb dX4_opens_11 (by decide) ?_
    exact x_zret X hP hS (Or.inl rfl) hM dX4_opens_12

def mX4_take (S : xS) (h0 : Nat) (p1 : Int32) : Option xS := if ((gI S h0 4) = 0 : Prop) then ((dO Yc (gR S h0 0) 7).bind fun d2 => if ((gI S d2 2) = p1 : Prop) then ((dO Yc (gR S h0 0) 7).bind fun d5 => (mX7_advance S d5).bind fun S6 => some S6) else ((mX4_fail S h0 1).bind fun S4 => some S4)) else (some S)
set_option maxHeartbeats 4000000 in
set_option maxRecDepth 100000 in
theorem kX4_take (l : Launch) (G : xG) (S : xS) (h0 : Nat) (p1 : Int32) (S' : xS) (hk0 : xk Yc h0 = 4) (hM : mX4_take S h0 p1 = some S') : xM l yX4_take cX4_take 2 none 7 188 G Yc [.ref (xad G h0), .int p1] S (xQv G Yc S') := by
  refine x_start (own := RX4) (by decide +kernel) rfl (Nat.le_of_ble_eq_true rfl) ?_
  intro p e s m below meth c ls X hl hP hS
  obtain ⟨hx, hb, hml, hown, hts, hr, hlk, hK, hE, hJ⟩ := id X
  have hl : lv_has ls 2 [(0, .ref (xad G h0)), (1, .int p1)] := hl
  unfold mX4_take at hM
  refine lv_aload_n hx hb dX4_take_0 rfl (lv_at hl 0 rfl) ?_
  refine fgX4_4 X hP hk0 qw128 dX4_take_1 ?_
  refine lv_if_eq (tgt := 8) hx hb dX4_take_4 (by decide) (fun c1 => ?_) (fun c1 => ?_)
  · replace hM := (if_pos c1).symm.trans hM
    refine lv_aload_n hx hb dX4_take_8 rfl (lv_at hl 0 rfl) ?_
    obtain ⟨d2, ed2, hM⟩ := xb hM
    refine fdX4_0 X hP hk0 qw129 dX4_take_9 ed2 ?_
    refine fgX7_2 X hP (dO_k ed2) qw133 dX4_take_12 ?_
    refine lv_iload_n hx hb dX4_take_15 rfl (lv_at hl 1 rfl) ?_
    refine lv_icmp_ne (tgt := 29) hx hb dX4_take_16 (by decide) (fun c3 => ?_) (fun c3 => ?_)
    · replace hM := (if_neg c3).symm.trans hM
      refine lv_aload_n hx hb dX4_take_29 rfl (lv_at hl 0 rfl) ?_
      refine lv_iconst (v := 1) hx hb dX4_take_30 (by decide) ?_
      obtain ⟨S4, eS4, hM⟩ := xb hM
      refine x_gov (x_runV (rest := []) X (kX4_fail l G S h0 1 S4 hk0 eS4) qw135 okX4_fail ⟨Nat.le_of_ble_eq_true rfl, Nat.le_of_ble_eq_true rfl⟩ hk0 (by decide) rfl hP hS rfl hl.1 rfl (Nat.le_of_ble_eq_true rfl) dX4_take_31) hS (fun H locs hP hS => ?_)
      exact x_vret X hP hS hM dX4_take_34
    · replace hM := (if_pos c3).symm.trans hM
      refine lv_aload_n hx hb dX4_take_19 rfl (lv_at hl 0 rfl) ?_
      obtain ⟨d5, ed5, hM⟩ := xb hM
      refine fdX4_0 X hP hk0 qw129 dX4_take_20 ed5 ?_
      obtain ⟨S6, eS6, hM⟩ := xb hM
      refine x_gov (x_runV (rest := []) X (kX7_advance l G S d5 S6 (dO_k ed5) eS6) qw134 okX7_advance ⟨Nat.le_of_ble_eq_true rfl, Nat.le_of_ble_eq_true rfl⟩ (dO_k ed5) (by decide) rfl hP hS rfl hl.1 rfl (Nat.le_of_ble_eq_true rfl) dX4_take_23) hS (fun H locs hP hS => ?_)
      refine lv_goto (tgt := 34) hx hb dX4_take_26 (by decide) ?_
      exact x_vret X hP hS hM dX4_take_34
  · replace hM := (if_neg c1).symm.trans hM
    exact x_vret X hP hS hM dX4_take_7

def mX4_comparison (S : xS) (p0 : Int32) : Option (Int32 × xS) := if (p0 : Int32) = 3 then (some (11, S)) else (if (p0 : Int32) = 4 then (some (13, S)) else (if (p0 : Int32) = 35 then (some (15, S)) else (if (p0 : Int32) = 60 then (some (10, S)) else (if (p0 : Int32) = 61 then (some (14, S)) else (if (p0 : Int32) = 62 then (some (12, S)) else (some ((-1), S)))))))
set_option maxHeartbeats 4000000 in
set_option maxRecDepth 100000 in
theorem kX4_comparison (l : Launch) (G : xG) (S : xS) (p0 : Int32) (r : Int32) (S' : xS) (hM : mX4_comparison S p0 = some (r, S')) : xM l yX4_comparison cX4_comparison 1 (some .int) 0 0 G Yc [.int p0] S (xQi G Yc r S') := by
  refine x_start (own := RX4) (by decide +kernel) rfl (Nat.le_of_ble_eq_true rfl) ?_
  intro p e s m below meth c ls X hl hP hS
  obtain ⟨hx, hb, hml, hown, hts, hr, hlk, hK, hE, hJ⟩ := id X
  have hl : lv_has ls 1 [(0, .int p0)] := hl
  unfold mX4_comparison at hM
  refine lv_iload_n hx hb dX4_comparison_0 rfl (lv_at hl 0 rfl) ?_
  by_cases c1 : p0 = 3
  · replace hM := (if_pos c1).symm.trans hM
    refine x_lookIn (tgt := 63) (off := 62) hx hb dX4_comparison_1 c1 (by decide) (by decide) (by decide) ?_
    refine lv_bipush (v := 11) hx hb dX4_comparison_63 (by decide) ?_
    exact x_iret X hP hS hM dX4_comparison_65
  replace hM := (if_neg c1).symm.trans hM
  by_cases c2 : p0 = 4
  · replace hM := (if_pos c2).symm.trans hM
    refine x_lookIn (tgt := 69) (off := 68) hx hb dX4_comparison_1 c2 (by decide) (by decide) (by decide) ?_
    refine lv_bipush (v := 13) hx hb dX4_comparison_69 (by decide) ?_
    exact x_iret X hP hS hM dX4_comparison_71
  replace hM := (if_neg c2).symm.trans hM
  by_cases c3 : p0 = 35
  · replace hM := (if_pos c3).symm.trans hM
    refine x_lookIn (tgt := 75) (off := 74) hx hb dX4_comparison_1 c3 (by decide) (by decide) (by decide) ?_
    refine lv_bipush (v := 15) hx hb dX4_comparison_75 (by decide) ?_
    exact x_iret X hP hS hM dX4_comparison_77
  replace hM := (if_neg c3).symm.trans hM
  by_cases c4 : p0 = 60
  · replace hM := (if_pos c4).symm.trans hM
    refine x_lookIn (tgt := 60) (off := 59) hx hb dX4_comparison_1 c4 (by decide) (by decide) (by decide) ?_
    refine lv_bipush (v := 10) hx hb dX4_comparison_60 (by decide) ?_
    exact x_iret X hP hS hM dX4_comparison_62
  replace hM := (if_neg c4).symm.trans hM
  by_cases c5 : p0 = 61
  · replace hM := (if_pos c5).symm.trans hM
    refine x_lookIn (tgt := 72) (off := 71) hx hb dX4_comparison_1 c5 (by decide) (by decide) (by decide) ?_
    refine lv_bipush (v := 14) hx hb dX4_comparison_72 (by decide) ?_
    exact x_iret X hP hS hM dX4_comparison_74
  replace hM := (if_neg c5).symm.trans hM
  by_cases c6 : p0 = 62
  · replace hM := (if_pos c6).symm.trans hM
    refine x_lookIn (tgt := 66) (off := 65) hx hb dX4_comparison_1 c6 (by decide) (by decide) (by decide) ?_
    refine lv_bipush (v := 12) hx hb dX4_comparison_66 (by decide) ?_
    exact x_iret X hP hS hM dX4_comparison_68
  replace hM := (if_neg c6).symm.trans hM
  have gc1 : ¬ (3 : Int) = (p0 : Int32).toInt := fun q => xne c1 q.symm
  have gc2 : ¬ (4 : Int) = (p0 : Int32).toInt := fun q => xne c2 q.symm
  have gc3 : ¬ (35 : Int) = (p0 : Int32).toInt := fun q => xne c3 q.symm
  have gc4 : ¬ (60 : Int) = (p0 : Int32).toInt := fun q => xne c4 q.symm
  have gc5 : ¬ (61 : Int) = (p0 : Int32).toInt := fun q => xne c5 q.symm
  have gc6 : ¬ (62 : Int) = (p0 : Int32).toInt := fun q => xne c6 q.symm
  refine lv_lookup (tgt := 78) (off := 77) hx hb dX4_comparison_1 (by decide) (by simp [Op.lookupswitch.offset, gc1, gc2, gc3, gc4, gc5, gc6]) (by decide) ?_
  refine lv_iconst (v := (-1)) hx hb dX4_comparison_78 (by decide) ?_
  exact x_iret X hP hS hM dX4_comparison_79

def xHR (l : Launch) (G : xG) (rec : Nat → xS → Nat → Int32 → Option xS) (f L : Nat) : Prop :=
  (∀ (S : xS) (h : Nat) (v : Int32) (S' : xS), xk Yc h = 4 → rec 0 S h v = some S' → xM l yX4_readSum cX4_readSum 4 none f L G Yc [.ref (xad G h), .int v] S (xQv G Yc S')) ∧
  (∀ (S : xS) (h : Nat) (v : Int32) (S' : xS), xk Yc h = 4 → rec 1 S h v = some S' → xM l yX4_readProduct cX4_readProduct 4 none f L G Yc [.ref (xad G h), .int v] S (xQv G Yc S')) ∧
  (∀ (S : xS) (h : Nat) (v : Int32) (S' : xS), xk Yc h = 4 → rec 2 S h v = some S' → xM l yX4_readOne cX4_readOne 3 none f L G Yc [.ref (xad G h), .int v] S (xQv G Yc S')) ∧
  (∀ (S : xS) (h : Nat) (v : Int32) (S' : xS), xk Yc h = 4 → rec 3 S h v = some S' → xM l yX4_readIf cX4_readIf 4 none f L G Yc [.ref (xad G h), .int v] S (xQv G Yc S')) ∧
  (∀ (S : xS) (h : Nat) (v : Int32) (S' : xS), xk Yc h = 4 → rec 4 S h v = some S' → xM l yX4_readEither cX4_readEither 3 none f L G Yc [.ref (xad G h), .int v] S (xQv G Yc S')) ∧
  (∀ (S : xS) (h : Nat) (v : Int32) (S' : xS), xk Yc h = 4 → rec 5 S h v = some S' → xM l yX4_readBoth cX4_readBoth 3 none f L G Yc [.ref (xad G h), .int v] S (xQv G Yc S')) ∧
  (∀ (S : xS) (h : Nat) (v : Int32) (S' : xS), xk Yc h = 4 → rec 6 S h v = some S' → xM l yX4_readAsk cX4_readAsk 3 none f L G Yc [.ref (xad G h), .int v] S (xQv G Yc S'))
def oX4_readAsk (rec : Nat → xS → Nat → Int32 → Option xS) (S : xS) (h0 : Nat) (p1 : Int32) : Option xS := if ((gI S h0 4) = 0 : Prop) then ((dO Yc (gR S h0 0) 7).bind fun d2 => if ((gI S d2 2) = 210 : Prop) then ((mX4_opens S h0 p1).bind fun q15 => if (q15.1 = 0 : Prop) then (some q15.2) else ((rec 6 q15.2 h0 (p1 + 1)).bind fun S17 => (dO Yc (gR S17 h0 1) 6).bind fun d18 => (mX6_put S17 d18 5 0).bind fun S19 => some S19)) else ((rec 0 S h0 p1).bind fun S4 => (dO Yc (gR S4 h0 0) 7).bind fun d5 => (mX4_comparison S4 (gI S4 d5 2)).bind fun q6 => if (q6.1 = (-1) : Prop) then ((mX4_fail q6.2 h0 1).bind fun S14 => some S14) else (if ((gI q6.2 h0 4) = 0 : Prop) then ((dO Yc (gR q6.2 h0 0) 7).bind fun d9 => (mX7_advance q6.2 d9).bind fun S10 => (rec 0 S10 h0 p1).bind fun S11 => (dO Yc (gR S11 h0 1) 6).bind fun d12 => (mX6_put S11 d12 q6.1 0).bind fun S13 => some S13) else (some q6.2)))) else (some S)
set_option maxHeartbeats 4000000 in
set_option maxRecDepth 100000 in
theorem koX4_readAsk (l : Launch) (G : xG) (rec : Nat → xS → Nat → Int32 → Option xS) {nn : Nat} (hrec : xHR l G rec (nn + 30) (40 * nn + 1500)) (S : xS) (h0 : Nat) (p1 : Int32) (S' : xS) (hk0 : xk Yc h0 = 4) (hM : oX4_readAsk rec S h0 p1 = some S') : xM l yX4_readAsk cX4_readAsk 3 none (nn + 1 + 30) (40 * (nn + 1) + 1500) G Yc [.ref (xad G h0), .int p1] S (xQv G Yc S') := by
  refine x_start (own := RX4) (by decide +kernel) rfl (Nat.le_of_ble_eq_true rfl) ?_
  intro p e s m below meth c ls X hl hP hS
  obtain ⟨hx, hb, hml, hown, hts, hr, hlk, hK, hE, hJ⟩ := id X
  have hl : lv_has ls 3 [(0, .ref (xad G h0)), (1, .int p1)] := hl
  unfold oX4_readAsk at hM
  refine lv_aload_n hx hb dX4_readAsk_0 rfl (lv_at hl 0 rfl) ?_
  refine fgX4_4 X hP hk0 qw128 dX4_readAsk_1 ?_
  refine lv_if_eq (tgt := 8) hx hb dX4_readAsk_4 (by decide) (fun c1 => ?_) (fun c1 => ?_)
  · replace hM := (if_pos c1).symm.trans hM
    refine lv_aload_n hx hb dX4_readAsk_8 rfl (lv_at hl 0 rfl) ?_
    obtain ⟨d2, ed2, hM⟩ := xb hM
    refine fdX4_0 X hP hk0 qw129 dX4_readAsk_9 ed2 ?_
    refine fgX7_2 X hP (dO_k ed2) qw133 dX4_readAsk_12 ?_
    refine lv_sipush (v := 210) hx hb dX4_readAsk_15 (by decide) ?_
    refine lv_icmp_ne (tgt := 46) hx hb dX4_readAsk_18 (by decide) (fun c3 => ?_) (fun c3 => ?_)
    · replace hM := (if_neg c3).symm.trans hM
      refine lv_aload_n hx hb dX4_readAsk_46 rfl (lv_at hl 0 rfl) ?_
      refine lv_iload_n hx hb dX4_readAsk_47 rfl (lv_at hl 1 rfl) ?_
      obtain ⟨S4, eS4, hM⟩ := xb hM
      refine x_gov (x_runV (rest := []) X (hrec.1 S h0 p1 S4 hk0 eS4) qw141 okX4_readSum ⟨by simp only [xr]; omega, by simp only [xr]; omega⟩ hk0 (by decide) rfl hP hS rfl hl.1 rfl (Nat.le_of_ble_eq_true rfl) dX4_readAsk_48) hS (fun H locs hP hS => ?_)
      refine lv_aload_n hx hb dX4_readAsk_51 rfl (lv_at hl 0 rfl) ?_
      obtain ⟨d5, ed5, hM⟩ := xb hM
      refine fdX4_0 X hP hk0 qw129 dX4_readAsk_52 ed5 ?_
      refine fgX7_2 X hP (dO_k ed5) qw133 dX4_readAsk_55 ?_
      obtain ⟨q6, eq6, hM⟩ := xb hM
      refine x_goi (x_runS (rest := []) X (kX4_comparison l G S4 (gI S4 d5 2) q6.1 q6.2  eq6) qw142 okX4_comparison ⟨by simp only [xr]; omega, by simp only [xr]; omega⟩ hP hS rfl hl.1 rfl (Nat.le_of_ble_eq_true rfl) dX4_readAsk_58) hS (fun H locs hP hS => ?_)
      refine lv_istore_n (lv' := [(2, .int q6.1), (0, .ref (xad G h0)), (1, .int p1)]) hx hb dX4_readAsk_61 rfl hl (by decide) rfl (fun ls hl => ?_)
      refine lv_iload_n hx hb dX4_readAsk_62 rfl (lv_at hl 0 rfl) ?_
      refine lv_iconst (v := (-1)) hx hb dX4_readAsk_63 (by decide) ?_
      refine lv_icmp_ne (tgt := 73) hx hb dX4_readAsk_64 (by decide) (fun c7 => ?_) (fun c7 => ?_)
      · replace hM := (if_neg c7).symm.trans hM
        refine lv_aload_n hx hb dX4_readAsk_73 rfl (lv_at hl 1 rfl) ?_
        refine fgX4_4 X hP hk0 qw128 dX4_readAsk_74 ?_
        refine lv_if_ne (tgt := 101) hx hb dX4_readAsk_77 (by decide) (fun c8 => ?_) (fun c8 => ?_)
        · replace hM := (if_neg c8).symm.trans hM
          exact x_vret X hP hS hM dX4_readAsk_101
        · replace hM := (if_pos c8).symm.trans hM
          refine lv_aload_n hx hb dX4_readAsk_80 rfl (lv_at hl 1 rfl) ?_
          obtain ⟨d9, ed9, hM⟩ := xb hM
          refine fdX4_0 X hP hk0 qw129 dX4_readAsk_81 ed9 ?_
          obtain ⟨S10, eS10, hM⟩ := xb hM
          refine x_gov (x_runV (rest := []) X (kX7_advance l G q6.2 d9 S10 (dO_k ed9) eS10) qw134 okX7_advance ⟨by simp only [xr]; omega, by simp only [xr]; omega⟩ (dO_k ed9) (by decide) rfl hP hS rfl hl.1 rfl (Nat.le_of_ble_eq_true rfl) dX4_readAsk_84) hS (fun H locs hP hS => ?_)
          refine lv_aload_n hx hb dX4_readAsk_87 rfl (lv_at hl 1 rfl) ?_
          refine lv_iload_n hx hb dX4_readAsk_88 rfl (lv_at hl 2 rfl) ?_
          obtain ⟨S11, eS11, hM⟩ := xb hM
          refine x_gov (x_runV (rest := []) X (hrec.1 S10 h0 p1 S11 hk0 eS11) qw141 okX4_readSum ⟨by simp only [xr]; omega, by simp only [xr]; omega⟩ hk0 (by decide) rfl hP hS rfl hl.1 rfl (Nat.le_of_ble_eq_true rfl) dX4_readAsk_89) hS (fun H locs hP hS => ?_)
          refine lv_aload_n hx hb dX4_readAsk_92 rfl (lv_at hl 1 rfl) ?_
          obtain ⟨d12, ed12, hM⟩ := xb hM
          refine fdX4_1 X hP hk0 qw139 dX4_readAsk_93 ed12 ?_
          refine lv_iload_n hx hb dX4_readAsk_96 rfl (lv_at hl 0 rfl) ?_
          refine lv_iconst (v := 0) hx hb dX4_readAsk_97 (by decide) ?_
          obtain ⟨S13, eS13, hM⟩ := xb hM
          refine x_gov (x_runV (rest := []) X (kX6_put l G S11 d12 q6.1 0 S13 (dO_k ed12) eS13) qw140 okX6_put ⟨by simp only [xr]; omega, by simp only [xr]; omega⟩ (dO_k ed12) (by decide) rfl hP hS rfl hl.1 rfl (Nat.le_of_ble_eq_true rfl) dX4_readAsk_98) hS (fun H locs hP hS => ?_)
          exact x_vret X hP hS hM dX4_readAsk_101
      · replace hM := (if_pos c7).symm.trans hM
        refine lv_aload_n hx hb dX4_readAsk_67 rfl (lv_at hl 1 rfl) ?_
        refine lv_iconst (v := 1) hx hb dX4_readAsk_68 (by decide) ?_
        obtain ⟨S14, eS14, hM⟩ := xb hM
        refine x_gov (x_runV (rest := []) X (kX4_fail l G q6.2 h0 1 S14 hk0 eS14) qw135 okX4_fail ⟨by simp only [xr]; omega, by simp only [xr]; omega⟩ hk0 (by decide) rfl hP hS rfl hl.1 rfl (Nat.le_of_ble_eq_true rfl) dX4_readAsk_69) hS (fun H locs hP hS => ?_)
        exact x_vret X hP hS hM dX4_readAsk_72
    · replace hM := (if_pos c3).symm.trans hM
      refine lv_aload_n hx hb dX4_readAsk_21 rfl (lv_at hl 0 rfl) ?_
      refine lv_iload_n hx hb dX4_readAsk_22 rfl (lv_at hl 1 rfl) ?_
      obtain ⟨q15, eq15, hM⟩ := xb hM
      refine x_goi (x_runV (rest := []) X (kX4_opens l G S h0 p1 q15.1 q15.2 hk0 eq15) qw143 okX4_opens ⟨by simp only [xr]; omega, by simp only [xr]; omega⟩ hk0 (by decide) rfl hP hS rfl hl.1 rfl (Nat.le_of_ble_eq_true rfl) dX4_readAsk_23) hS (fun H locs hP hS => ?_)
      refine lv_if_eq (tgt := 45) hx hb dX4_readAsk_26 (by decide) (fun c16 => ?_) (fun c16 => ?_)
      · replace hM := (if_pos c16).symm.trans hM
        exact x_vret X hP hS hM dX4_readAsk_45
      · replace hM := (if_neg c16).symm.trans hM
        refine lv_aload_n hx hb dX4_readAsk_29 rfl (lv_at hl 0 rfl) ?_
        refine lv_iload_n hx hb dX4_readAsk_30 rfl (lv_at hl 1 rfl) ?_
        refine lv_iconst (v := 1) hx hb dX4_readAsk_31 (by decide) ?_
        refine lv_iadd hx hb dX4_readAsk_32 ?_
        obtain ⟨S17, eS17, hM⟩ := xb hM
        refine x_gov (x_runV (rest := []) X (hrec.2.2.2.2.2.2 q15.2 h0 (p1 + 1) S17 hk0 eS17) qw144 okX4_readAsk ⟨by simp only [xr]; omega, by simp only [xr]; omega⟩ hk0 (by decide) rfl hP hS rfl hl.1 rfl (Nat.le_of_ble_eq_true rfl) dX4_readAsk_33) hS (fun H locs hP hS => ?_)
        refine lv_aload_n hx hb dX4_readAsk_36 rfl (lv_at hl 0 rfl) ?_
        obtain ⟨d18, ed18, hM⟩ := xb hM
        refine fdX4_1 X hP hk0 qw139 dX4_readAsk_37 ed18 ?_
        refine lv_iconst (v := 5) hx hb dX4_readAsk_40 (by decide) ?_
        refine lv_iconst (v := 0) hx hb dX4_readAsk_41 (by decide) ?_
        obtain ⟨S19, eS19, hM⟩ := xb hM
        refine x_gov (x_runV (rest := []) X (kX6_put l G S17 d18 5 0 S19 (dO_k ed18) eS19) qw140 okX6_put ⟨by simp only [xr]; omega, by simp only [xr]; omega⟩ (dO_k ed18) (by decide) rfl hP hS rfl hl.1 rfl (Nat.le_of_ble_eq_true rfl) dX4_readAsk_42) hS (fun H locs hP hS => ?_)
        exact x_vret X hP hS hM dX4_readAsk_45
  · replace hM := (if_neg c1).symm.trans hM
    exact x_vret X hP hS hM dX4_readAsk_7

def lX4_readBoth_7 (rec : Nat → xS → Nat → Int32 → Option xS) : Nat → xS → Nat → Int32 → Int32 → Option xS
  | 0, _, _, _, _ => none
  | n + 1, S, h0, v1, v2 => if (300 ≤ v2 : Prop) then (some S) else (if ((gI S h0 4) = 0 : Prop) then ((dO Yc (gR S h0 0) 7).bind fun d3 => if ((gI S d3 2) = 209 : Prop) then ((dO Yc (gR S h0 0) 7).bind fun d5 => (mX7_advance S d5).bind fun S6 => (rec 6 S6 h0 v1).bind fun S7 => (dO Yc (gR S7 h0 1) 6).bind fun d8 => (mX6_put S7 d8 16 0).bind fun S9 => lX4_readBoth_7 rec n S9 h0 v1 (v2 + 1)) else (some S)) else (some S))
set_option maxHeartbeats 4000000 in
set_option maxRecDepth 100000 in
theorem wX4_readBoth_7 {p : Program} {l : Launch} {e : Env} {s : State} {m : MethodId} {args : Array Value} {below : List Frame} {meth : Method} {c : Code} {G : xG} {S' : xS} (X : xX p s m args meth c cX4_readBoth 3 none RX4 G Yc) (rec : Nat → xS → Nat → Int32 → Option xS) {nn : Nat} (hrec : xHR l G rec (nn + 30) (40 * nn + 1500)) : ∀ (n : Nat), ∀ (S : xS) (h0 : Nat) (v1 : Int32) (v2 : Int32) (H : Heap) (locs : List Loc) (ls : Array Slot), lX4_readBoth_7 rec  n S h0 v1 v2 = some S' → xk Yc h0 = 4 → xP G Yc S H → va_S (xA G Yc) s.heap H locs → lv_has ls 3 [(0, .ref (xad G h0)), (1, .int v1), (2, .int v2)] → W p l e (xr (nn + 1 + 30) (40 * (nn + 1) + 1500)) s m args below meth c H locs 0 0 (MQ below (xQv G Yc S') args s 0 0 (xA G Yc)) (F0 m 7 ls []) := by
  obtain ⟨hx, hb, hml, hown, hts, hr, hlk, hK, hE, hJ⟩ := id X
  intro n
  induction n with
  | zero =>
    intro S h0 v1 v2 H locs ls hM
    rw [lX4_readBoth_7.eq_1] at hM
    cases hM
  | succ n ih =>
    intro S h0 v1 v2 H locs ls hM hk0 hP hS hl
    rw [lX4_readBoth_7.eq_2] at hM
    refine lv_iload_n hx hb dX4_readBoth_7 rfl (lv_at hl 2 rfl) ?_
    refine lv_sipush (v := 300) hx hb dX4_readBoth_8 (by decide) ?_
    refine lv_icmp_ge (tgt := 62) hx hb dX4_readBoth_11 (by decide) (fun c1 => ?_) (fun c1 => ?_)
    · replace hM := (if_pos c1).symm.trans hM
      exact x_vret X hP hS hM dX4_readBoth_62
    · replace hM := (if_neg c1).symm.trans hM
      refine lv_aload_n hx hb dX4_readBoth_14 rfl (lv_at hl 0 rfl) ?_
      refine fgX4_4 X hP hk0 qw128 dX4_readBoth_15 ?_
      refine lv_if_ne (tgt := 62) hx hb dX4_readBoth_18 (by decide) (fun c2 => ?_) (fun c2 => ?_)
      · replace hM := (if_neg c2).symm.trans hM
        exact x_vret X hP hS hM dX4_readBoth_62
      · replace hM := (if_pos c2).symm.trans hM
        refine lv_aload_n hx hb dX4_readBoth_21 rfl (lv_at hl 0 rfl) ?_
        obtain ⟨d3, ed3, hM⟩ := xb hM
        refine fdX4_0 X hP hk0 qw129 dX4_readBoth_22 ed3 ?_
        refine fgX7_2 X hP (dO_k ed3) qw133 dX4_readBoth_25 ?_
        refine lv_sipush (v := 209) hx hb dX4_readBoth_28 (by decide) ?_
        refine lv_icmp_ne (tgt := 62) hx hb dX4_readBoth_31 (by decide) (fun c4 => ?_) (fun c4 => ?_)
        · replace hM := (if_neg c4).symm.trans hM
          exact x_vret X hP hS hM dX4_readBoth_62
        · replace hM := (if_pos c4).symm.trans hM
          refine lv_aload_n hx hb dX4_readBoth_34 rfl (lv_at hl 0 rfl) ?_
          obtain ⟨d5, ed5, hM⟩ := xb hM
          refine fdX4_0 X hP hk0 qw129 dX4_readBoth_35 ed5 ?_
          obtain ⟨S6, eS6, hM⟩ := xb hM
          refine x_gov (x_runV (rest := []) X (kX7_advance l G S d5 S6 (dO_k ed5) eS6) qw134 okX7_advance ⟨by simp only [xr]; omega, by simp only [xr]; omega⟩ (dO_k ed5) (by decide) rfl hP hS rfl hl.1 rfl (Nat.le_of_ble_eq_true rfl) dX4_readBoth_38) hS (fun H locs hP hS => ?_)
          refine lv_aload_n hx hb dX4_readBoth_41 rfl (lv_at hl 0 rfl) ?_
          refine lv_iload_n hx hb dX4_readBoth_42 rfl (lv_at hl 1 rfl) ?_
          obtain ⟨S7, eS7, hM⟩ := xb hM
          refine x_gov (x_runV (rest := []) X (hrec.2.2.2.2.2.2 S6 h0 v1 S7 hk0 eS7) qw144 okX4_readAsk ⟨by simp only [xr]; omega, by simp only [xr]; omega⟩ hk0 (by decide) rfl hP hS rfl hl.1 rfl (Nat.le_of_ble_eq_true rfl) dX4_readBoth_43) hS (fun H locs hP hS => ?_)
          refine lv_aload_n hx hb dX4_readBoth_46 rfl (lv_at hl 0 rfl) ?_
          obtain ⟨d8, ed8, hM⟩ := xb hM
          refine fdX4_1 X hP hk0 qw139 dX4_readBoth_47 ed8 ?_
          refine lv_bipush (v := 16) hx hb dX4_readBoth_50 (by decide) ?_
          refine lv_iconst (v := 0) hx hb dX4_readBoth_52 (by decide) ?_
          obtain ⟨S9, eS9, hM⟩ := xb hM
          refine x_gov (x_runV (rest := []) X (kX6_put l G S7 d8 16 0 S9 (dO_k ed8) eS9) qw140 okX6_put ⟨by simp only [xr]; omega, by simp only [xr]; omega⟩ (dO_k ed8) (by decide) rfl hP hS rfl hl.1 rfl (Nat.le_of_ble_eq_true rfl) dX4_readBoth_53) hS (fun H locs hP hS => ?_)
          refine lv_iinc (v := v2 + 1) (lv' := [(2, .int (v2 + 1)), (0, .ref (xad G h0)), (1, .int v1)]) hx hb dX4_readBoth_56 hl (k := 2) rfl (by first | rfl | exact congrArg (fun z => v2 + z) (by decide)) (by decide) rfl (fun ls hl => ?_)
          refine lv_goto (tgt := 7) hx hb dX4_readBoth_59 (by decide) ?_
          exact ih S9 h0 v1 (v2 + 1) _ _ _ hM hk0 hP hS (lv_sub hl [1, 2, 0] rfl)
def oX4_readBoth (rec : Nat → xS → Nat → Int32 → Option xS) (S : xS) (h0 : Nat) (p1 : Int32) : Option xS := (rec 6 S h0 p1).bind fun S1 => lX4_readBoth_7 rec  5000 S1 h0 p1 0
set_option maxHeartbeats 4000000 in
set_option maxRecDepth 100000 in
theorem koX4_readBoth (l : Launch) (G : xG) (rec : Nat → xS → Nat → Int32 → Option xS) {nn : Nat} (hrec : xHR l G rec (nn + 30) (40 * nn + 1500)) (S : xS) (h0 : Nat) (p1 : Int32) (S' : xS) (hk0 : xk Yc h0 = 4) (hM : oX4_readBoth rec S h0 p1 = some S') : xM l yX4_readBoth cX4_readBoth 3 none (nn + 1 + 30) (40 * (nn + 1) + 1500) G Yc [.ref (xad G h0), .int p1] S (xQv G Yc S') := by
  refine x_start (own := RX4) (by decide +kernel) rfl (Nat.le_of_ble_eq_true rfl) ?_
  intro p e s m below meth c ls X hl hP hS
  obtain ⟨hx, hb, hml, hown, hts, hr, hlk, hK, hE, hJ⟩ := id X
  have hl : lv_has ls 3 [(0, .ref (xad G h0)), (1, .int p1)] := hl
  unfold oX4_readBoth at hM
  refine lv_aload_n hx hb dX4_readBoth_0 rfl (lv_at hl 0 rfl) ?_
  refine lv_iload_n hx hb dX4_readBoth_1 rfl (lv_at hl 1 rfl) ?_
  obtain ⟨S1, eS1, hM⟩ := xb hM
  refine x_gov (x_runV (rest := []) X (hrec.2.2.2.2.2.2 S h0 p1 S1 hk0 eS1) qw144 okX4_readAsk ⟨by simp only [xr]; omega, by simp only [xr]; omega⟩ hk0 (by decide) rfl hP hS rfl hl.1 rfl (Nat.le_of_ble_eq_true rfl) dX4_readBoth_2) hS (fun H locs hP hS => ?_)
  refine lv_iconst (v := 0) hx hb dX4_readBoth_5 (by decide) ?_
  refine lv_istore_n (lv' := [(2, .int 0), (0, .ref (xad G h0)), (1, .int p1)]) hx hb dX4_readBoth_6 rfl hl (by decide) rfl (fun ls hl => ?_)
  exact wX4_readBoth_7 X rec hrec  5000 S1 h0 p1 0 _ _ _ hM hk0 hP hS (lv_sub hl [1, 2, 0] rfl)

def lX4_readEither_7 (rec : Nat → xS → Nat → Int32 → Option xS) : Nat → xS → Nat → Int32 → Int32 → Option xS
  | 0, _, _, _, _ => none
  | n + 1, S, h0, v1, v2 => if (300 ≤ v2 : Prop) then (some S) else (if ((gI S h0 4) = 0 : Prop) then ((dO Yc (gR S h0 0) 7).bind fun d3 => if ((gI S d3 2) = 208 : Prop) then ((dO Yc (gR S h0 0) 7).bind fun d5 => (mX7_advance S d5).bind fun S6 => (rec 5 S6 h0 v1).bind fun S7 => (dO Yc (gR S7 h0 1) 6).bind fun d8 => (mX6_put S7 d8 17 0).bind fun S9 => lX4_readEither_7 rec n S9 h0 v1 (v2 + 1)) else (some S)) else (some S))
set_option maxHeartbeats 4000000 in
set_option maxRecDepth 100000 in
theorem wX4_readEither_7 {p : Program} {l : Launch} {e : Env} {s : State} {m : MethodId} {args : Array Value} {below : List Frame} {meth : Method} {c : Code} {G : xG} {S' : xS} (X : xX p s m args meth c cX4_readEither 3 none RX4 G Yc) (rec : Nat → xS → Nat → Int32 → Option xS) {nn : Nat} (hrec : xHR l G rec (nn + 30) (40 * nn + 1500)) : ∀ (n : Nat), ∀ (S : xS) (h0 : Nat) (v1 : Int32) (v2 : Int32) (H : Heap) (locs : List Loc) (ls : Array Slot), lX4_readEither_7 rec  n S h0 v1 v2 = some S' → xk Yc h0 = 4 → xP G Yc S H → va_S (xA G Yc) s.heap H locs → lv_has ls 3 [(0, .ref (xad G h0)), (1, .int v1), (2, .int v2)] → W p l e (xr (nn + 1 + 30) (40 * (nn + 1) + 1500)) s m args below meth c H locs 0 0 (MQ below (xQv G Yc S') args s 0 0 (xA G Yc)) (F0 m 7 ls []) := by
  obtain ⟨hx, hb, hml, hown, hts, hr, hlk, hK, hE, hJ⟩ := id X
  intro n
  induction n with
  | zero =>
    intro S h0 v1 v2 H locs ls hM
    rw [lX4_readEither_7.eq_1] at hM
    cases hM
  | succ n ih =>
    intro S h0 v1 v2 H locs ls hM hk0 hP hS hl
    rw [lX4_readEither_7.eq_2] at hM
    refine lv_iload_n hx hb dX4_readEither_7 rfl (lv_at hl 2 rfl) ?_
    refine lv_sipush (v := 300) hx hb dX4_readEither_8 (by decide) ?_
    refine lv_icmp_ge (tgt := 62) hx hb dX4_readEither_11 (by decide) (fun c1 => ?_) (fun c1 => ?_)
    · replace hM := (if_pos c1).symm.trans hM
      exact x_vret X hP hS hM dX4_readEither_62
    · replace hM := (if_neg c1).symm.trans hM
      refine lv_aload_n hx hb dX4_readEither_14 rfl (lv_at hl 0 rfl) ?_
      refine fgX4_4 X hP hk0 qw128 dX4_readEither_15 ?_
      refine lv_if_ne (tgt := 62) hx hb dX4_readEither_18 (by decide) (fun c2 => ?_) (fun c2 => ?_)
      · replace hM := (if_neg c2).symm.trans hM
        exact x_vret X hP hS hM dX4_readEither_62
      · replace hM := (if_pos c2).symm.trans hM
        refine lv_aload_n hx hb dX4_readEither_21 rfl (lv_at hl 0 rfl) ?_
        obtain ⟨d3, ed3, hM⟩ := xb hM
        refine fdX4_0 X hP hk0 qw129 dX4_readEither_22 ed3 ?_
        refine fgX7_2 X hP (dO_k ed3) qw133 dX4_readEither_25 ?_
        refine lv_sipush (v := 208) hx hb dX4_readEither_28 (by decide) ?_
        refine lv_icmp_ne (tgt := 62) hx hb dX4_readEither_31 (by decide) (fun c4 => ?_) (fun c4 => ?_)
        · replace hM := (if_neg c4).symm.trans hM
          exact x_vret X hP hS hM dX4_readEither_62
        · replace hM := (if_pos c4).symm.trans hM
          refine lv_aload_n hx hb dX4_readEither_34 rfl (lv_at hl 0 rfl) ?_
          obtain ⟨d5, ed5, hM⟩ := xb hM
          refine fdX4_0 X hP hk0 qw129 dX4_readEither_35 ed5 ?_
          obtain ⟨S6, eS6, hM⟩ := xb hM
          refine x_gov (x_runV (rest := []) X (kX7_advance l G S d5 S6 (dO_k ed5) eS6) qw134 okX7_advance ⟨by simp only [xr]; omega, by simp only [xr]; omega⟩ (dO_k ed5) (by decide) rfl hP hS rfl hl.1 rfl (Nat.le_of_ble_eq_true rfl) dX4_readEither_38) hS (fun H locs hP hS => ?_)
          refine lv_aload_n hx hb dX4_readEither_41 rfl (lv_at hl 0 rfl) ?_
          refine lv_iload_n hx hb dX4_readEither_42 rfl (lv_at hl 1 rfl) ?_
          obtain ⟨S7, eS7, hM⟩ := xb hM
          refine x_gov (x_runV (rest := []) X (hrec.2.2.2.2.2.1 S6 h0 v1 S7 hk0 eS7) qw145 okX4_readBoth ⟨by simp only [xr]; omega, by simp only [xr]; omega⟩ hk0 (by decide) rfl hP hS rfl hl.1 rfl (Nat.le_of_ble_eq_true rfl) dX4_readEither_43) hS (fun H locs hP hS => ?_)
          refine lv_aload_n hx hb dX4_readEither_46 rfl (lv_at hl 0 rfl) ?_
          obtain ⟨d8, ed8, hM⟩ := xb hM
          refine fdX4_1 X hP hk0 qw139 dX4_readEither_47 ed8 ?_
          refine lv_bipush (v := 17) hx hb dX4_readEither_50 (by decide) ?_
          refine lv_iconst (v := 0) hx hb dX4_readEither_52 (by decide) ?_
          obtain ⟨S9, eS9, hM⟩ := xb hM
          refine x_gov (x_runV (rest := []) X (kX6_put l G S7 d8 17 0 S9 (dO_k ed8) eS9) qw140 okX6_put ⟨by simp only [xr]; omega, by simp only [xr]; omega⟩ (dO_k ed8) (by decide) rfl hP hS rfl hl.1 rfl (Nat.le_of_ble_eq_true rfl) dX4_readEither_53) hS (fun H locs hP hS => ?_)
          refine lv_iinc (v := v2 + 1) (lv' := [(2, .int (v2 + 1)), (0, .ref (xad G h0)), (1, .int v1)]) hx hb dX4_readEither_56 hl (k := 2) rfl (by first | rfl | exact congrArg (fun z => v2 + z) (by decide)) (by decide) rfl (fun ls hl => ?_)
          refine lv_goto (tgt := 7) hx hb dX4_readEither_59 (by decide) ?_
          exact ih S9 h0 v1 (v2 + 1) _ _ _ hM hk0 hP hS (lv_sub hl [1, 2, 0] rfl)
def oX4_readEither (rec : Nat → xS → Nat → Int32 → Option xS) (S : xS) (h0 : Nat) (p1 : Int32) : Option xS := (rec 5 S h0 p1).bind fun S1 => lX4_readEither_7 rec  5000 S1 h0 p1 0
set_option maxHeartbeats 4000000 in
set_option maxRecDepth 100000 in
theorem koX4_readEither (l : Launch) (G : xG) (rec : Nat → xS → Nat → Int32 → Option xS) {nn : Nat} (hrec : xHR l G rec (nn + 30) (40 * nn + 1500)) (S : xS) (h0 : Nat) (p1 : Int32) (S' : xS) (hk0 : xk Yc h0 = 4) (hM : oX4_readEither rec S h0 p1 = some S') : xM l yX4_readEither cX4_readEither 3 none (nn + 1 + 30) (40 * (nn + 1) + 1500) G Yc [.ref (xad G h0), .int p1] S (xQv G Yc S') := by
  refine x_start (own := RX4) (by decide +kernel) rfl (Nat.le_of_ble_eq_true rfl) ?_
  intro p e s m below meth c ls X hl hP hS
  obtain ⟨hx, hb, hml, hown, hts, hr, hlk, hK, hE, hJ⟩ := id X
  have hl : lv_has ls 3 [(0, .ref (xad G h0)), (1, .int p1)] := hl
  unfold oX4_readEither at hM
  refine lv_aload_n hx hb dX4_readEither_0 rfl (lv_at hl 0 rfl) ?_
  refine lv_iload_n hx hb dX4_readEither_1 rfl (lv_at hl 1 rfl) ?_
  obtain ⟨S1, eS1, hM⟩ := xb hM
  refine x_gov (x_runV (rest := []) X (hrec.2.2.2.2.2.1 S h0 p1 S1 hk0 eS1) qw145 okX4_readBoth ⟨by simp only [xr]; omega, by simp only [xr]; omega⟩ hk0 (by decide) rfl hP hS rfl hl.1 rfl (Nat.le_of_ble_eq_true rfl) dX4_readEither_2) hS (fun H locs hP hS => ?_)
  refine lv_iconst (v := 0) hx hb dX4_readEither_5 (by decide) ?_
  refine lv_istore_n (lv' := [(2, .int 0), (0, .ref (xad G h0)), (1, .int p1)]) hx hb dX4_readEither_6 rfl hl (by decide) rfl (fun ls hl => ?_)
  exact wX4_readEither_7 X rec hrec  5000 S1 h0 p1 0 _ _ _ hM hk0 hP hS (lv_sub hl [1, 2, 0] rfl)

/-! THE TEXTS: String.length, String.charAt of the two constants -/
def xch (t : Nat) (i : Int32) : Option Int32 := if i < 0 ∨ xtl.getD t 0 ≤ i.toNatClampNeg then none else some ((xtb.getD t []).getD i.toNatClampNeg 0)
theorem xch_v {t : Nat} {i v : Int32} (h : xch t i = some v) : vp_in i (xtl.getD t 0) ∧ (xtb.getD t []).getD i.toNatClampNeg 0 = v := by
  unfold xch at h
  split at h
  · cases h
  · next h1 => cases h; exact ⟨h1, rfl⟩
theorem xtb_ok : ∀ t, t < 2 → ∀ j, j < xtl.getD t 0 → (((((xtb.getD t []).getD j 0) &&& 255).toUInt32 % 65536).toInt32 = (xtb.getD t []).getD j 0 ∧ narrow .char (.int ((xtb.getD t []).getD j 0)) = .int ((xtb.getD t []).getD j 0)) := by decide +kernel
theorem xtl_lt : ∀ t, t < 2 → xtl.getD t 0 < 2 ^ 31 := by decide +kernel
section XSTR
variable {p : Program} {l : Launch} {e : Env} {R : Room} {s : State} {m : MethodId} {args : Array Value} {below : List Frame} {meth : Method} {c : Code} {H : Heap} {locs : List Loc} {Q : State → Prop}
variable {cc : ByteArray} {pc nL : Nat} {ls : Array Slot} {rest st0 : List Value} {own : String} {ret : Option FieldType} {G : xG} {Y : xY} {S S' : xS}
variable {y : MethodName} {code : ByteArray} {nl n f L index : Nat} {rt : Option FieldType} {As : List Value}
/-- a call on one of the texts -/
theorem x_runT {Qc : Array Value → State → Outcome → State → Prop} (X : xX p s m args meth c cc nL ret own G Y) (t : Nat) (ht : t < 2) (hM : xM l y code nl rt f L G Y (.ref (G.2.2.2.1 t) :: As) S Qc) (hl : Cond.methodLink own index y ∈ xU) (hy : xokV "java/lang/String" y code nl rt n) (hR : f + 1 ≤ R.frames ∧ 8 + (nl + 11) + L ≤ R.locals) (hP : xP G Y S H) (hS : va_S (xA G Y) s.heap H locs) (hn : As.length = n) (hsize : ls.size = nL) (hst : st0 = As.reverse ++ .ref (G.2.2.2.1 t) :: rest) (hW : (rest.map fun v => v.category).sum ≤ 8) (hdg : decode cc pc = .ok (.invokevirtual index, 3)) :
    va_Run p l e R s m args below meth c H locs 0 0 0 0 (F0 m pc ls st0) rest (Qc (Value.ref (G.2.2.2.1 t) :: As).toArray) (xA G Y) := by
  obtain ⟨hx, hb, hml, hown, hts, hr, hlk, hK, hE, hJ⟩ := id X
  refine va_runV (C := "java/lang/String") (bytes := code) (maxL := nl) (ret := rt) (n := n) (nL := nL) (Ts := xU) (own := own) (index := index) ⟨hx, hb, hml, hown, hts⟩ hM (cwV n hts (xokV_good hl hy) rfl rfl rfl hy.2.2.2.2 hR) ⟨xPc_blind _ _ _ _, vk_recv hE.2.2.1 ht hS, fun U hU hWm => ⟨rfl, by rw [hU]; exact hP, va_K.moved hWm.alike hK, ?_, hJ⟩⟩ rfl hn hsize hst (lv_room hW) hdg ⟨Nat.zero_le _, Nat.zero_le _⟩
  rw [hU]
  exact (hE.warm hWm).kept hS.2.1
end XSTR
set_option maxRecDepth 100000 in
/-- Preconditions.checkIndex(i, n, f): i, if it is a place below n -/
theorem kJ_pre (l : Launch) (G : xG) (Y : xY) (S : xS) (i n : Int32) (w : Value) (hw : w = .null ∨ ∃ t, w = .ref t) (h1 : ¬ i < 0) (h2 : i < n) : xM l yJ3_checkIndex_8e157 cJ3_checkIndex_8e157 3 (some .int) 0 0 G Y [.int i, .int n, w] S (xQi G Y i S) := by
  have hlg : (lg_sl [.int i, .int n, w]).length ≤ 3 := by rcases hw with rfl | ⟨t, rfl⟩ <;> exact Nat.le_of_ble_eq_true rfl
  refine x_start (own := RJ3) (by decide +kernel) rfl hlg ?_
  intro p e s m below meth c ls X hl hP hS
  obtain ⟨hx, hb, hml, hown, hts, hr, hlk, hK, hE, hJ⟩ := id X
  have hl : lv_has ls 3 [(0, .int i), (1, .int n), (2, w)] := hl
  refine lv_iload_n hx hb dJ3_checkIndex_8e157_0 rfl (lv_at hl 0 rfl) ?_
  refine lv_if_lt (tgt := 9) hx hb dJ3_checkIndex_8e157_1 (by decide) (fun c1 => absurd c1 h1) (fun c1 => ?_)
  refine lv_iload_n hx hb dJ3_checkIndex_8e157_4 rfl (lv_at hl 0 rfl) ?_
  refine lv_iload_n hx hb dJ3_checkIndex_8e157_5 rfl (lv_at hl 1 rfl) ?_
  refine lv_icmp_lt (tgt := 16) hx hb dJ3_checkIndex_8e157_6 (by decide) (fun c2 => ?_) (fun c2 => absurd h2 c2)
  refine lv_iload_n hx hb dJ3_checkIndex_8e157_16 rfl (lv_at hl 0 rfl) ?_
  exact x_iret X hP hS rfl dJ3_checkIndex_8e157_17
set_option maxRecDepth 100000 in
theorem kJ_chk (l : Launch) (G : xG) (Y : xY) (S : xS) (i n : Int32) (h1 : ¬ i < 0) (h2 : i < n) : xM l yJ0_checkIndex_df160 cJ0_checkIndex_df160 2 none 1 30 G Y [.int i, .int n] S (xQv G Y S) := by
  refine x_start (own := RJ0) (by decide +kernel) rfl (Nat.le_of_ble_eq_true rfl) ?_
  intro p e s m below meth c ls X hl hP hS
  obtain ⟨hx, hb, hml, hown, hts, hr, hlk, hK, hE, hJ⟩ := id X
  have hl : lv_has ls 2 [(0, .int i), (1, .int n)] := hl
  refine lv_iload_n hx hb dJ0_checkIndex_df160_0 rfl (lv_at hl 0 rfl) ?_
  refine lv_iload_n hx hb dJ0_checkIndex_df160_1 rfl (lv_at hl 1 rfl) ?_
  obtain ⟨w, hw, hZ⟩ : ∃ w : Value, (w = .null ∨ ∃ t, w = .ref t) ∧ va_Z "jdk/internal/util/Preconditions" "SIOOBE_FORMATTER" "Ljava/util/function/BiFunction;" w (xA G Y) s s.heap := by
    rcases hE.2.2.2.2 with h | ⟨t, h⟩
    · exact ⟨_, Or.inl rfl, h⟩
    · exact ⟨_, Or.inr ⟨t, rfl⟩, h⟩
  refine va_gets (ref := "jdk/internal/util/Preconditions") (index := 1053) hx hb hZ hS hown (hts _ xq_sio) (fun _ h => h) dJ0_checkIndex_df160_2 ?_
  refine x_goi (x_runS (rest := []) X (kJ_pre l G Y S i n w hw h1 h2) xq_pre okJ3_checkIndex_8e157 ⟨Nat.le_of_ble_eq_true rfl, Nat.le_of_ble_eq_true rfl⟩ hP hS rfl hl.1 rfl (Nat.le_of_ble_eq_true rfl) dJ0_checkIndex_df160_5) hS (fun H locs hP hS => ?_)
  refine lv_pop hx hb dJ0_checkIndex_df160_8 rfl ?_
  exact x_vret X hP hS rfl dJ0_checkIndex_df160_9
set_option maxRecDepth 100000 in
theorem kJ_cod (l : Launch) (G : xG) (Y : xY) (S : xS) (t : Nat) (ht : t < 2) : xM l yJ0_coder_7d493 cJ0_coder_7d493 1 (some .byte) 0 0 G Y [.ref (G.2.2.2.1 t)] S (xQi G Y 0 S) := by
  refine x_start (own := RJ0) (by decide +kernel) rfl (Nat.le_of_ble_eq_true rfl) ?_
  intro p e s m below meth c ls X hl hP hS
  obtain ⟨hx, hb, hml, hown, hts, hr, hlk, hK, hE, hJ⟩ := id X
  have hl : lv_has ls 1 [(0, .ref (G.2.2.2.1 t))] := hl
  refine va_gets (ref := "java/lang/String") (index := 38) hx hb hE.2.2.2.1 hS hown (hts _ xq_cs) (fun _ h => h) dJ0_coder_7d493_0 ?_
  refine lv_if_eq (tgt := 13) hx hb dJ0_coder_7d493_3 (by decide) (fun c1 => absurd c1 (by decide)) (fun c1 => ?_)
  refine lv_aload_n hx hb dJ0_coder_7d493_6 rfl (lv_at hl 0 rfl) ?_
  refine vk_getf (ref := "java/lang/String") (index := 15) hx hb (hE.2.2.1.1 t ht).2.1 hS hown (hts _ xq_cod) (fun _ h => h) dJ0_coder_7d493_7 ?_
  refine lv_goto (tgt := 14) hx hb dJ0_coder_7d493_10 (by decide) ?_
  exact W.zret hx hb hr (by decide +kernel) (fun t ht hW => ⟨⟨0, (), rfl, rfl, by show xP G Y S t.heap; rw [ht]; exact hP⟩, hS.F ht⟩) hS.2.2 dJ0_coder_7d493_14 hlk
set_option maxRecDepth 100000 in
theorem kJ_lat (l : Launch) (G : xG) (Y : xY) (S : xS) (t : Nat) (ht : t < 2) : xM l yJ0_isLatin1_aae02 cJ0_isLatin1_aae02 1 (some .boolean) 0 0 G Y [.ref (G.2.2.2.1 t)] S (xQi G Y 1 S) := by
  refine x_start (own := RJ0) (by decide +kernel) rfl (Nat.le_of_ble_eq_true rfl) ?_
  intro p e s m below meth c ls X hl hP hS
  obtain ⟨hx, hb, hml, hown, hts, hr, hlk, hK, hE, hJ⟩ := id X
  have hl : lv_has ls 1 [(0, .ref (G.2.2.2.1 t))] := hl
  refine va_gets (ref := "java/lang/String") (index := 38) hx hb hE.2.2.2.1 hS hown (hts _ xq_cs) (fun _ h => h) dJ0_isLatin1_aae02_0 ?_
  refine lv_if_eq (tgt := 17) hx hb dJ0_isLatin1_aae02_3 (by decide) (fun c1 => absurd c1 (by decide)) (fun c1 => ?_)
  refine lv_aload_n hx hb dJ0_isLatin1_aae02_6 rfl (lv_at hl 0 rfl) ?_
  refine vk_getf (ref := "java/lang/String") (index := 15) hx hb (hE.2.2.1.1 t ht).2.1 hS hown (hts _ xq_cod) (fun _ h => h) dJ0_isLatin1_aae02_7 ?_
  refine lv_if_ne (tgt := 17) hx hb dJ0_isLatin1_aae02_10 (by decide) (fun c1 => absurd rfl c1) (fun c1 => ?_)
  refine lv_iconst (v := 1) hx hb dJ0_isLatin1_aae02_13 (by decide) ?_
  refine lv_goto (tgt := 18) hx hb dJ0_isLatin1_aae02_14 (by decide) ?_
  exact x_zret X hP hS (Or.inr rfl) rfl dJ0_isLatin1_aae02_18
set_option maxRecDepth 100000 in
theorem kJ_len (l : Launch) (G : xG) (Y : xY) (S : xS) (t : Nat) (ht : t < 2) : xM l yJ0_length_8abf5 cJ0_length_8abf5 1 (some .int) 1 30 G Y [.ref (G.2.2.2.1 t)] S (xQi G Y (Int32.ofNat (xtl.getD t 0) >>> ((0 : Int32) &&& 31)) S) := by
  refine x_start (own := RJ0) (by decide +kernel) rfl (Nat.le_of_ble_eq_true rfl) ?_
  intro p e s m below meth c ls X hl hP hS
  obtain ⟨hx, hb, hml, hown, hts, hr, hlk, hK, hE, hJ⟩ := id X
  have hl : lv_has ls 1 [(0, .ref (G.2.2.2.1 t))] := hl
  refine lv_aload_n hx hb dJ0_length_8abf5_0 rfl (lv_at hl 0 rfl) ?_
  refine vk_getf (ref := "java/lang/String") (index := 9) hx hb (hE.2.2.1.1 t ht).2.2.1 hS hown (hts _ xq_val) (fun _ h => h) dJ0_length_8abf5_1 ?_
  refine va_tlen hx hb (hE.2.2.1.1 t ht).2.2.2 hS rfl dJ0_length_8abf5_4 ?_
  refine lv_aload_n hx hb dJ0_length_8abf5_5 rfl (lv_at hl 0 rfl) ?_
  refine x_goi (x_runT (rest := [.int (Int32.ofNat (xtl.getD t 0))]) X t ht (kJ_cod l G Y S t ht) xq_lcod okJ0_coder_7d493 ⟨Nat.le_of_ble_eq_true rfl, Nat.le_of_ble_eq_true rfl⟩ hP hS rfl hl.1 rfl (Nat.le_of_ble_eq_true rfl) dJ0_length_8abf5_6) hS (fun H locs hP hS => ?_)
  refine lv_ishr hx hb dJ0_length_8abf5_9 ?_
  exact x_iret X hP hS rfl dJ0_length_8abf5_10
set_option maxRecDepth 100000 in
theorem kJ_lch (l : Launch) (G : xG) (Y : xY) (S : xS) (t : Nat) (ht : t < 2) (i r : Int32) (hM : xch t i = some r) : xM l yJ1_charAt_3b067 cJ1_charAt_3b067 2 (some .char) 2 60 G Y [.ref (G.2.2.2.2 t), .int i] S (xQi G Y r S) := by
  obtain ⟨hin, hv⟩ := xch_v hM
  have hn31 := xtl_lt t ht
  obtain ⟨j, hj, rfl⟩ := vp_in_of hin hn31
  have hcl : (nI j).toNatClampNeg = j := nI_clamp (by omega)
  rw [hcl] at hv
  obtain ⟨g1, g2⟩ := xtb_ok t ht j hj
  rw [hv] at g1 g2
  refine x_start (own := RJ1) (by decide +kernel) rfl (Nat.le_of_ble_eq_true rfl) ?_
  intro p e s m below meth c ls X hl hP hS
  obtain ⟨hx, hb, hml, hown, hts, hr, hlk, hK, hE, hJ⟩ := id X
  have hl : lv_has ls 2 [(0, .ref (G.2.2.2.2 t)), (1, .int (nI j))] := hl
  refine lv_iload_n hx hb dJ1_charAt_3b067_0 rfl (lv_at hl 1 rfl) ?_
  refine lv_aload_n hx hb dJ1_charAt_3b067_1 rfl (lv_at hl 0 rfl) ?_
  refine va_tlen (v := nI (xtl.getD t 0)) hx hb (hE.2.2.1.1 t ht).2.2.2 hS rfl dJ1_charAt_3b067_2 ?_
  refine x_gov (x_runS (rest := []) X (kJ_chk l G Y S (nI j) (nI (xtl.getD t 0)) (nI_pos (by omega)) (nI_lt hj hn31)) xq_chk okJ0_checkIndex_df160 ⟨Nat.le_of_ble_eq_true rfl, Nat.le_of_ble_eq_true rfl⟩ hP hS rfl hl.1 rfl (Nat.le_of_ble_eq_true rfl) dJ1_charAt_3b067_3) hS (fun H locs hP hS => ?_)
  refine lv_aload_n hx hb dJ1_charAt_3b067_6 rfl (lv_at hl 0 rfl) ?_
  refine lv_iload_n hx hb dJ1_charAt_3b067_7 rfl (lv_at hl 1 rfl) ?_
  refine va_tb (v := .int r) hx hb (hE.2.2.1.1 t ht).2.2.2 hS hin (by rw [hcl]; exact congrArg Value.int hv) dJ1_charAt_3b067_8 ?_
  refine lv_sipush (v := 255) hx hb dJ1_charAt_3b067_9 (by decide) ?_
  refine lv_iand hx hb dJ1_charAt_3b067_12 ?_
  refine lv_i2c hx hb dJ1_charAt_3b067_13 g1 ?_
  exact W.zret hx hb hr g2 (fun t ht hW => ⟨⟨r, (), rfl, rfl, by show xP G Y S t.heap; rw [ht]; exact hP⟩, hS.F ht⟩) hS.2.2 dJ1_charAt_3b067_14 hlk
set_option maxRecDepth 100000 in
theorem kJ_chr (l : Launch) (G : xG) (Y : xY) (S : xS) (t : Nat) (i r : Int32) (hM : xch t i = some r) (ht : t < 2) : xM l yJ0_charAt_5068e cJ0_charAt_5068e 2 (some .char) 3 90 G Y [.ref (G.2.2.2.1 t), .int i] S (xQi G Y r S) := by
  obtain ⟨hin, hv⟩ := xch_v hM
  have hn31 := xtl_lt t ht
  obtain ⟨j, hj, hij⟩ := vp_in_of hin hn31
  have hcl : i.toNatClampNeg = j := by rw [hij]; exact nI_clamp (by omega)
  rw [hcl] at hv
  obtain ⟨g1, g2⟩ := xtb_ok t ht j hj
  rw [hv] at g2
  refine x_start (own := RJ0) (by decide +kernel) rfl (Nat.le_of_ble_eq_true rfl) ?_
  intro p e s m below meth c ls X hl hP hS
  obtain ⟨hx, hb, hml, hown, hts, hr, hlk, hK, hE, hJ⟩ := id X
  have hl : lv_has ls 2 [(0, .ref (G.2.2.2.1 t)), (1, .int i)] := hl
  refine lv_aload_n hx hb dJ0_charAt_5068e_0 rfl (lv_at hl 0 rfl) ?_
  refine x_goi (x_runT (rest := []) X t ht (kJ_lat l G Y S t ht) xq_lat okJ0_isLatin1_aae02 ⟨Nat.le_of_ble_eq_true rfl, Nat.le_of_ble_eq_true rfl⟩ hP hS rfl hl.1 rfl (Nat.le_of_ble_eq_true rfl) dJ0_charAt_5068e_1) hS (fun H locs hP hS => ?_)
  refine lv_if_eq (tgt := 16) hx hb dJ0_charAt_5068e_4 (by decide) (fun c1 => absurd c1 (by decide)) (fun c1 => ?_)
  refine lv_aload_n hx hb dJ0_charAt_5068e_7 rfl (lv_at hl 0 rfl) ?_
  refine vk_getf (ref := "java/lang/String") (index := 9) hx hb (hE.2.2.1.1 t ht).2.2.1 hS hown (hts _ xq_val) (fun _ h => h) dJ0_charAt_5068e_8 ?_
  refine lv_iload_n hx hb dJ0_charAt_5068e_11 rfl (lv_at hl 1 rfl) ?_
  refine x_goi (x_runS (rest := []) X (kJ_lch l G Y S t ht i r hM) xq_lch okJ1_charAt_3b067 ⟨Nat.le_of_ble_eq_true rfl, Nat.le_of_ble_eq_true rfl⟩ hP hS rfl hl.1 rfl (Nat.le_of_ble_eq_true rfl) dJ0_charAt_5068e_12) hS (fun H locs hP hS => ?_)
  exact W.zret hx hb hr g2 (fun t ht hW => ⟨⟨r, (), rfl, rfl, by show xP G Y S t.heap; rw [ht]; exact hP⟩, hS.F ht⟩) hS.2.2 dJ0_charAt_5068e_15 hlk

set_option maxHeartbeats 4000000 in
set_option maxRecDepth 100000 in
theorem law_sister {p : Program} {l : Launch} {e : Env} {s : State} {m : MethodId} {below : List Frame} {meth : Method} {c : Code} {b L : Nat} {xs : Nat → Int32} {Gc Gm : xG} (Z : yZ p s m meth c b L xs Gc Gm) {Rel : xS → xS → Prop} (hs : sim_sister Rel) {i : Nat} (hi : i + 6 ≤ L) (hL : L ≤ 3072) {x3 : Int32} (ex3 : x3 = nI i) {Sc Sm : xS} (hrel : Rel Sc Sm) {H : Heap} {locs : List Loc} {ls : Array Slot} (hPc : xP Gc Yc Sc H) (hPm : xP Gm Ym Sm H) (hS : va_S (yA s) s.heap H locs) (hl : lv_has ls 4 [(0, .ref b), (1, .ref (xad Gc 0)), (2, .ref (xad Gm 0)), (3, .int x3)]) (next : ∀ (Sc Sm : xS) (H : Heap) (locs : List Loc) (ls : Array Slot), Rel Sc Sm → xP Gc Yc Sc H → xP Gm Ym Sm H → va_S (yA s) s.heap H locs → lv_has ls 4 [(0, .ref b), (1, .ref (xad Gc 0)), (2, .ref (xad Gm 0)), (3, .int x3)] → W p l e room_1 s m #[Value.ref b] below meth c H locs 62 12897 (lw_Z below #[Value.ref b] s) (F0 m 974 ls [])) : W p l e room_1 s m #[Value.ref b] below meth c H locs 62 12897 (lw_Z below #[Value.ref b] s) (F0 m 156 ls []) := by
  obtain ⟨hx, hb, hml, hown, hts, hr, hlk, hKc, hKm, hdis, hX, hbl⟩ := id Z
  have hbA : ¬ yA s b := Nat.not_le.mpr hbl
  obtain ⟨r, Sc', Sm', e1, e2, hrel'⟩ := hs Sc Sm (xs (x3 + 1).toNatClampNeg) hrel
  refine lv_aload_n hx hb dL_law_156 rfl (lv_at hl 1 rfl) ?_
  refine lv_aload_n hx hb dL_law_157 rfl (lv_at hl 0 rfl) ?_
  refine lv_iload_n hx hb dL_law_158 rfl (lv_at hl 3 rfl) ?_
  refine lv_iconst (v := 1) hx hb dL_law_159 (by decide) ?_
  refine lv_iadd hx hb dL_law_160 ?_
  refine va_sld hx hb hX hbl hbA hS (y_in 1 ex3 hi hL (by decide)) dL_law_161 ?_
  refine y_goi (y_runV (As := [.int (xs (x3 + 1).toNatClampNeg)]) (rest := []) hx hb hml hown hts hKc hS (kX8_sister l Gc Sc 0 (xs (x3 + 1).toNatClampNeg) r Sc' rfl e1) qw861 okX8_sister ⟨Nat.le_of_ble_eq_true rfl, Nat.le_of_ble_eq_true rfl⟩ rfl (by decide) rfl hPc rfl hl.1 rfl (Nat.le_of_ble_eq_true rfl) dL_law_162 ⟨Nat.le_of_ble_eq_true rfl, Nat.le_of_ble_eq_true rfl⟩) hS hKc.2.2.2 hPm hdis (fun H locs hPc hPm hS => ?_)
  refine lv_aload_n hx hb dL_law_165 rfl (lv_at hl 2 rfl) ?_
  refine lv_aload_n hx hb dL_law_166 rfl (lv_at hl 0 rfl) ?_
  refine lv_iload_n hx hb dL_law_167 rfl (lv_at hl 3 rfl) ?_
  refine lv_iconst (v := 1) hx hb dL_law_168 (by decide) ?_
  refine lv_iadd hx hb dL_law_169 ?_
  refine va_sld hx hb hX hbl hbA hS (y_in 1 ex3 hi hL (by decide)) dL_law_170 ?_
  refine y_goi (y_runV (As := [.int (xs (x3 + 1).toNatClampNeg)]) (rest := [.int r]) hx hb hml hown hts hKm hS (kX9_sister l Gm Sm 0 (xs (x3 + 1).toNatClampNeg) r Sm' rfl e2) qw862 okX9_sister ⟨Nat.le_of_ble_eq_true rfl, Nat.le_of_ble_eq_true rfl⟩ rfl (by decide) rfl hPm rfl hl.1 rfl (Nat.le_of_ble_eq_true rfl) dL_law_171 ⟨Nat.le_of_ble_eq_true rfl, Nat.le_of_ble_eq_true rfl⟩) hS hKm.2.2.2 hPc (fun q h1 h2 => hdis q h2 h1) (fun H locs hPm hPc hS => ?_)
  refine lv_icmp_eq (tgt := 974) hx hb dL_law_174 (by decide) (fun _ => ?_) (fun c => absurd rfl c)
  exact next Sc' Sm' H locs ls hrel' hPc hPm hS hl
set_option maxHeartbeats 4000000 in
set_option maxRecDepth 100000 in
theorem law_mice {p : Program} {l : Launch} {e : Env} {s : State} {m : MethodId} {below : List Frame} {meth : Method} {c : Code} {b L : Nat} {xs : Nat → Int32} {Gc Gm : xG} (Z : yZ p s m meth c b L xs Gc Gm) {Rel : xS → xS → Prop} (hs : sim_mice Rel) {i : Nat} (hi : i + 6 ≤ L) (hL : L ≤ 3072) {x3 : Int32} (ex3 : x3 = nI i) {Sc Sm : xS} (hrel : Rel Sc Sm) {H : Heap} {locs : List Loc} {ls : Array Slot} (hPc : xP Gc Yc Sc H) (hPm : xP Gm Ym Sm H) (hS : va_S (yA s) s.heap H locs) (hl : lv_has ls 4 [(0, .ref b), (1, .ref (xad Gc 0)), (2, .ref (xad Gm 0)), (3, .int x3)]) (next : ∀ (Sc Sm : xS) (H : Heap) (locs : List Loc) (ls : Array Slot), Rel Sc Sm → xP Gc Yc Sc H → xP Gm Ym Sm H → va_S (yA s) s.heap H locs → lv_has ls 4 [(0, .ref b), (1, .ref (xad Gc 0)), (2, .ref (xad Gm 0)), (3, .int x3)] → W p l e room_1 s m #[Value.ref b] below meth c H locs 62 12897 (lw_Z below #[Value.ref b] s) (F0 m 974 ls [])) : W p l e room_1 s m #[Value.ref b] below meth c H locs 62 12897 (lw_Z below #[Value.ref b] s) (F0 m 179 ls []) := by
  obtain ⟨hx, hb, hml, hown, hts, hr, hlk, hKc, hKm, hdis, hX, hbl⟩ := id Z
  have hbA : ¬ yA s b := Nat.not_le.mpr hbl
  obtain ⟨r, Sc', Sm', e1, e2, hrel'⟩ := hs Sc Sm (xs (x3 + 1).toNatClampNeg) hrel
  refine lv_aload_n hx hb dL_law_179 rfl (lv_at hl 1 rfl) ?_
  refine lv_aload_n hx hb dL_law_180 rfl (lv_at hl 0 rfl) ?_
  refine lv_iload_n hx hb dL_law_181 rfl (lv_at hl 3 rfl) ?_
  refine lv_iconst (v := 1) hx hb dL_law_182 (by decide) ?_
  refine lv_iadd hx hb dL_law_183 ?_
  refine va_sld hx hb hX hbl hbA hS (y_in 1 ex3 hi hL (by decide)) dL_law_184 ?_
  refine y_goi (y_runV (As := [.int (xs (x3 + 1).toNatClampNeg)]) (rest := []) hx hb hml hown hts hKc hS (kX8_mice l Gc Sc 0 (xs (x3 + 1).toNatClampNeg) r Sc' rfl e1) qw863 okX8_mice ⟨Nat.le_of_ble_eq_true rfl, Nat.le_of_ble_eq_true rfl⟩ rfl (by decide) rfl hPc rfl hl.1 rfl (Nat.le_of_ble_eq_true rfl) dL_law_185 ⟨Nat.le_of_ble_eq_true rfl, Nat.le_of_ble_eq_true rfl⟩) hS hKc.2.2.2 hPm hdis (fun H locs hPc hPm hS => ?_)
  refine lv_aload_n hx hb dL_law_188 rfl (lv_at hl 2 rfl) ?_
  refine lv_aload_n hx hb dL_law_189 rfl (lv_at hl 0 rfl) ?_
  refine lv_iload_n hx hb dL_law_190 rfl (lv_at hl 3 rfl) ?_
  refine lv_iconst (v := 1) hx hb dL_law_191 (by decide) ?_
  refine lv_iadd hx hb dL_law_192 ?_
  refine va_sld hx hb hX hbl hbA hS (y_in 1 ex3 hi hL (by decide)) dL_law_193 ?_
  refine y_goi (y_runV (As := [.int (xs (x3 + 1).toNatClampNeg)]) (rest := [.int r]) hx hb hml hown hts hKm hS (kX9_mice l Gm Sm 0 (xs (x3 + 1).toNatClampNeg) r Sm' rfl e2) qw864 okX9_mice ⟨Nat.le_of_ble_eq_true rfl, Nat.le_of_ble_eq_true rfl⟩ rfl (by decide) rfl hPm rfl hl.1 rfl (Nat.le_of_ble_eq_true rfl) dL_law_194 ⟨Nat.le_of_ble_eq_true rfl, Nat.le_of_ble_eq_true rfl⟩) hS hKm.2.2.2 hPc (fun q h1 h2 => hdis q h2 h1) (fun H locs hPm hPc hS => ?_)
  refine lv_icmp_eq (tgt := 974) hx hb dL_law_197 (by decide) (fun _ => ?_) (fun c => absurd rfl c)
  exact next Sc' Sm' H locs ls hrel' hPc hPm hS hl
set_option maxHeartbeats 4000000 in
set_option maxRecDepth 100000 in
theorem law_seed {p : Program} {l : Launch} {e : Env} {s : State} {m : MethodId} {below : List Frame} {meth : Method} {c : Code} {b L : Nat} {xs : Nat → Int32} {Gc Gm : xG} (Z : yZ p s m meth c b L xs Gc Gm) {Rel : xS → xS → Prop} (hs : sim_seed Rel) {i : Nat} (hi : i + 6 ≤ L) (hL : L ≤ 3072) {x3 : Int32} (ex3 : x3 = nI i) {Sc Sm : xS} (hrel : Rel Sc Sm) {H : Heap} {locs : List Loc} {ls : Array Slot} (hPc : xP Gc Yc Sc H) (hPm : xP Gm Ym Sm H) (hS : va_S (yA s) s.heap H locs) (hl : lv_has ls 4 [(0, .ref b), (1, .ref (xad Gc 0)), (2, .ref (xad Gm 0)), (3, .int x3)]) (next : ∀ (Sc Sm : xS) (H : Heap) (locs : List Loc) (ls : Array Slot), Rel Sc Sm → xP Gc Yc Sc H → xP Gm Ym Sm H → va_S (yA s) s.heap H locs → lv_has ls 4 [(0, .ref b), (1, .ref (xad Gc 0)), (2, .ref (xad Gm 0)), (3, .int x3)] → W p l e room_1 s m #[Value.ref b] below meth c H locs 62 12897 (lw_Z below #[Value.ref b] s) (F0 m 974 ls [])) : W p l e room_1 s m #[Value.ref b] below meth c H locs 62 12897 (lw_Z below #[Value.ref b] s) (F0 m 202 ls []) := by
  obtain ⟨hx, hb, hml, hown, hts, hr, hlk, hKc, hKm, hdis, hX, hbl⟩ := id Z
  have hbA : ¬ yA s b := Nat.not_le.mpr hbl
  obtain ⟨r, Sc', Sm', e1, e2, hrel'⟩ := hs Sc Sm (xs (x3 + 1).toNatClampNeg) hrel
  refine lv_aload_n hx hb dL_law_202 rfl (lv_at hl 1 rfl) ?_
  refine lv_aload_n hx hb dL_law_203 rfl (lv_at hl 0 rfl) ?_
  refine lv_iload_n hx hb dL_law_204 rfl (lv_at hl 3 rfl) ?_
  refine lv_iconst (v := 1) hx hb dL_law_205 (by decide) ?_
  refine lv_iadd hx hb dL_law_206 ?_
  refine va_sld hx hb hX hbl hbA hS (y_in 1 ex3 hi hL (by decide)) dL_law_207 ?_
  refine y_goi (y_runV (As := [.int (xs (x3 + 1).toNatClampNeg)]) (rest := []) hx hb hml hown hts hKc hS (kX8_seed l Gc Sc 0 (xs (x3 + 1).toNatClampNeg) r Sc' rfl e1) qw865 okX8_seed ⟨Nat.le_of_ble_eq_true rfl, Nat.le_of_ble_eq_true rfl⟩ rfl (by decide) rfl hPc rfl hl.1 rfl (Nat.le_of_ble_eq_true rfl) dL_law_208 ⟨Nat.le_of_ble_eq_true rfl, Nat.le_of_ble_eq_true rfl⟩) hS hKc.2.2.2 hPm hdis (fun H locs hPc hPm hS => ?_)
  refine lv_aload_n hx hb dL_law_211 rfl (lv_at hl 2 rfl) ?_
  refine lv_aload_n hx hb dL_law_212 rfl (lv_at hl 0 rfl) ?_
  refine lv_iload_n hx hb dL_law_213 rfl (lv_at hl 3 rfl) ?_
  refine lv_iconst (v := 1) hx hb dL_law_214 (by decide) ?_
  refine lv_iadd hx hb dL_law_215 ?_
  refine va_sld hx hb hX hbl hbA hS (y_in 1 ex3 hi hL (by decide)) dL_law_216 ?_
  refine y_goi (y_runV (As := [.int (xs (x3 + 1).toNatClampNeg)]) (rest := [.int r]) hx hb hml hown hts hKm hS (kX9_seed l Gm Sm 0 (xs (x3 + 1).toNatClampNeg) r Sm' rfl e2) qw866 okX9_seed ⟨Nat.le_of_ble_eq_true rfl, Nat.le_of_ble_eq_true rfl⟩ rfl (by decide) rfl hPm rfl hl.1 rfl (Nat.le_of_ble_eq_true rfl) dL_law_217 ⟨Nat.le_of_ble_eq_true rfl, Nat.le_of_ble_eq_true rfl⟩) hS hKm.2.2.2 hPc (fun q h1 h2 => hdis q h2 h1) (fun H locs hPm hPc hS => ?_)
  refine lv_icmp_eq (tgt := 974) hx hb dL_law_220 (by decide) (fun _ => ?_) (fun c => absurd rfl c)
  exact next Sc' Sm' H locs ls hrel' hPc hPm hS hl
set_option maxHeartbeats 4000000 in
set_option maxRecDepth 100000 in
theorem law_feed {p : Program} {l : Launch} {e : Env} {s : State} {m : MethodId} {below : List Frame} {meth : Method} {c : Code} {b L : Nat} {xs : Nat → Int32} {Gc Gm : xG} (Z : yZ p s m meth c b L xs Gc Gm) {Rel : xS → xS → Prop} (hs : sim_feed Rel) {i : Nat} (hi : i + 6 ≤ L) (hL : L ≤ 3072) {x3 : Int32} (ex3 : x3 = nI i) {Sc Sm : xS} (hrel : Rel Sc Sm) {H : Heap} {locs : List Loc} {ls : Array Slot} (hPc : xP Gc Yc Sc H) (hPm : xP Gm Ym Sm H) (hS : va_S (yA s) s.heap H locs) (hl : lv_has ls 4 [(0, .ref b), (1, .ref (xad Gc 0)), (2, .ref (xad Gm 0)), (3, .int x3)]) (next : ∀ (Sc Sm : xS) (H : Heap) (locs : List Loc) (ls : Array Slot), Rel Sc Sm → xP Gc Yc Sc H → xP Gm Ym Sm H → va_S (yA s) s.heap H locs → lv_has ls 4 [(0, .ref b), (1, .ref (xad Gc 0)), (2, .ref (xad Gm 0)), (3, .int x3)] → W p l e room_1 s m #[Value.ref b] below meth c H locs 62 12897 (lw_Z below #[Value.ref b] s) (F0 m 974 ls [])) : W p l e room_1 s m #[Value.ref b] below meth c H locs 62 12897 (lw_Z below #[Value.ref b] s) (F0 m 225 ls []) := by
  obtain ⟨hx, hb, hml, hown, hts, hr, hlk, hKc, hKm, hdis, hX, hbl⟩ := id Z
  have hbA : ¬ yA s b := Nat.not_le.mpr hbl
  obtain ⟨r, Sc', Sm', e1, e2, hrel'⟩ := hs Sc Sm (xs (x3 + 1).toNatClampNeg) (xs (x3 + 2).toNatClampNeg) (xs (x3 + 3).toNatClampNeg) (xs (x3 + 4).toNatClampNeg) (xs (x3 + 5).toNatClampNeg) hrel
  refine lv_aload_n hx hb dL_law_225 rfl (lv_at hl 1 rfl) ?_
  refine lv_aload_n hx hb dL_law_226 rfl (lv_at hl 0 rfl) ?_
  refine lv_iload_n hx hb dL_law_227 rfl (lv_at hl 3 rfl) ?_
  refine lv_iconst (v := 1) hx hb dL_law_228 (by decide) ?_
  refine lv_iadd hx hb dL_law_229 ?_
  refine va_sld hx hb hX hbl hbA hS (y_in 1 ex3 hi hL (by decide)) dL_law_230 ?_
  refine lv_aload_n hx hb dL_law_231 rfl (lv_at hl 0 rfl) ?_
  refine lv_iload_n hx hb dL_law_232 rfl (lv_at hl 3 rfl) ?_
  refine lv_iconst (v := 2) hx hb dL_law_233 (by decide) ?_
  refine lv_iadd hx hb dL_law_234 ?_
  refine va_sld hx hb hX hbl hbA hS (y_in 2 ex3 hi hL (by decide)) dL_law_235 ?_
  refine lv_aload_n hx hb dL_law_236 rfl (lv_at hl 0 rfl) ?_
  refine lv_iload_n hx hb dL_law_237 rfl (lv_at hl 3 rfl) ?_
  refine lv_iconst (v := 3) hx hb dL_law_238 (by decide) ?_
  refine lv_iadd hx hb dL_law_239 ?_
  refine va_sld hx hb hX hbl hbA hS (y_in 3 ex3 hi hL (by decide)) dL_law_240 ?_
  refine lv_aload_n hx hb dL_law_241 rfl (lv_at hl 0 rfl) ?_
  refine lv_iload_n hx hb dL_law_242 rfl (lv_at hl 3 rfl) ?_
  refine lv_iconst (v := 4) hx hb dL_law_243 (by decide) ?_
  refine lv_iadd hx hb dL_law_244 ?_
  refine va_sld hx hb hX hbl hbA hS (y_in 4 ex3 hi hL (by decide)) dL_law_245 ?_
  refine lv_aload_n hx hb dL_law_246 rfl (lv_at hl 0 rfl) ?_
  refine lv_iload_n hx hb dL_law_247 rfl (lv_at hl 3 rfl) ?_
  refine lv_iconst (v := 5) hx hb dL_law_248 (by decide) ?_
  refine lv_iadd hx hb dL_law_249 ?_
  refine va_sld hx hb hX hbl hbA hS (y_in 5 ex3 hi hL (by decide)) dL_law_250 ?_
  refine y_goi (y_runV (As := [.int (xs (x3 + 1).toNatClampNeg), .int (xs (x3 + 2).toNatClampNeg), .int (xs (x3 + 3).toNatClampNeg), .int (xs (x3 + 4).toNatClampNeg), .int (xs (x3 + 5).toNatClampNeg)]) (rest := []) hx hb hml hown hts hKc hS (kX8_feed l Gc Sc 0 (xs (x3 + 1).toNatClampNeg) (xs (x3 + 2).toNatClampNeg) (xs (x3 + 3).toNatClampNeg) (xs (x3 + 4).toNatClampNeg) (xs (x3 + 5).toNatClampNeg) r Sc' rfl e1) qw867 okX8_feed ⟨Nat.le_of_ble_eq_true rfl, Nat.le_of_ble_eq_true rfl⟩ rfl (by decide) rfl hPc rfl hl.1 rfl (Nat.le_of_ble_eq_true rfl) dL_law_251 ⟨Nat.le_of_ble_eq_true rfl, Nat.le_of_ble_eq_true rfl⟩) hS hKc.2.2.2 hPm hdis (fun H locs hPc hPm hS => ?_)
  refine lv_aload_n hx hb dL_law_254 rfl (lv_at hl 2 rfl) ?_
  refine lv_aload_n hx hb dL_law_255 rfl (lv_at hl 0 rfl) ?_
  refine lv_iload_n hx hb dL_law_256 rfl (lv_at hl 3 rfl) ?_
  refine lv_iconst (v := 1) hx hb dL_law_257 (by decide) ?_
  refine lv_iadd hx hb dL_law_258 ?_
  refine va_sld hx hb hX hbl hbA hS (y_in 1 ex3 hi hL (by decide)) dL_law_259 ?_
  refine lv_aload_n hx hb dL_law_260 rfl (lv_at hl 0 rfl) ?_
  refine lv_iload_n hx hb dL_law_261 rfl (lv_at hl 3 rfl) ?_
  refine lv_iconst (v := 2) hx hb dL_law_262 (by decide) ?_
  refine lv_iadd hx hb dL_law_263 ?_
  refine va_sld hx hb hX hbl hbA hS (y_in 2 ex3 hi hL (by decide)) dL_law_264 ?_
  refine lv_aload_n hx hb dL_law_265 rfl (lv_at hl 0 rfl) ?_
  refine lv_iload_n hx hb dL_law_266 rfl (lv_at hl 3 rfl) ?_
  refine lv_iconst (v := 3) hx hb dL_law_267 (by decide) ?_
  refine lv_iadd hx hb dL_law_268 ?_
  refine va_sld hx hb hX hbl hbA hS (y_in 3 ex3 hi hL (by decide)) dL_law_269 ?_
  refine lv_aload_n hx hb dL_law_270 rfl (lv_at hl 0 rfl) ?_
  refine lv_iload_n hx hb dL_law_271 rfl (lv_at hl 3 rfl) ?_
  refine lv_iconst (v := 4) hx hb dL_law_272 (by decide) ?_
  refine lv_iadd hx hb dL_law_273 ?_
  refine va_sld hx hb hX hbl hbA hS (y_in 4 ex3 hi hL (by decide)) dL_law_274 ?_
  refine lv_aload_n hx hb dL_law_275 rfl (lv_at hl 0 rfl) ?_
  refine lv_iload_n hx hb dL_law_276 rfl (lv_at hl 3 rfl) ?_
  refine lv_iconst (v := 5) hx hb dL_law_277 (by decide) ?_
  refine lv_iadd hx hb dL_law_278 ?_
  refine va_sld hx hb hX hbl hbA hS (y_in 5 ex3 hi hL (by decide)) dL_law_279 ?_
  refine y_goi (y_runV (As := [.int (xs (x3 + 1).toNatClampNeg), .int (xs (x3 + 2).toNatClampNeg), .int (xs (x3 + 3).toNatClampNeg), .int (xs (x3 + 4).toNatClampNeg), .int (xs (x3 + 5).toNatClampNeg)]) (rest := [.int r]) hx hb hml hown hts hKm hS (kX9_feed l Gm Sm 0 (xs (x3 + 1).toNatClampNeg) (xs (x3 + 2).toNatClampNeg) (xs (x3 + 3).toNatClampNeg) (xs (x3 + 4).toNatClampNeg) (xs (x3 + 5).toNatClampNeg) r Sm' rfl e2) qw868 okX9_feed ⟨Nat.le_of_ble_eq_true rfl, Nat.le_of_ble_eq_true rfl⟩ rfl (by decide) rfl hPm rfl hl.1 rfl (Nat.le_of_ble_eq_true rfl) dL_law_280 ⟨Nat.le_of_ble_eq_true rfl, Nat.le_of_ble_eq_true rfl⟩) hS hKm.2.2.2 hPc (fun q h1 h2 => hdis q h2 h1) (fun H locs hPm hPc hS => ?_)
  refine lv_icmp_eq (tgt := 974) hx hb dL_law_283 (by decide) (fun _ => ?_) (fun c => absurd rfl c)
  exact next Sc' Sm' H locs ls hrel' hPc hPm hS hl
set_option maxHeartbeats 4000000 in
set_option maxRecDepth 100000 in
theorem law_end {p : Program} {l : Launch} {e : Env} {s : State} {m : MethodId} {below : List Frame} {meth : Method} {c : Code} {b L : Nat} {xs : Nat → Int32} {Gc Gm : xG} (Z : yZ p s m meth c b L xs Gc Gm) {Rel : xS → xS → Prop} (hs : sim_end Rel) {i : Nat} (hi : i + 6 ≤ L) (hL : L ≤ 3072) {x3 : Int32} (ex3 : x3 = nI i) {Sc Sm : xS} (hrel : Rel Sc Sm) {H : Heap} {locs : List Loc} {ls : Array Slot} (hPc : xP Gc Yc Sc H) (hPm : xP Gm Ym Sm H) (hS : va_S (yA s) s.heap H locs) (hl : lv_has ls 4 [(0, .ref b), (1, .ref (xad Gc 0)), (2, .ref (xad Gm 0)), (3, .int x3)]) (next : ∀ (Sc Sm : xS) (H : Heap) (locs : List Loc) (ls : Array Slot), Rel Sc Sm → xP Gc Yc Sc H → xP Gm Ym Sm H → va_S (yA s) s.heap H locs → lv_has ls 4 [(0, .ref b), (1, .ref (xad Gc 0)), (2, .ref (xad Gm 0)), (3, .int x3)] → W p l e room_1 s m #[Value.ref b] below meth c H locs 62 12897 (lw_Z below #[Value.ref b] s) (F0 m 974 ls [])) : W p l e room_1 s m #[Value.ref b] below meth c H locs 62 12897 (lw_Z below #[Value.ref b] s) (F0 m 288 ls []) := by
  obtain ⟨hx, hb, hml, hown, hts, hr, hlk, hKc, hKm, hdis, hX, hbl⟩ := id Z
  have hbA : ¬ yA s b := Nat.not_le.mpr hbl
  obtain ⟨r, Sc', Sm', e1, e2, hrel'⟩ := hs Sc Sm (xs (x3 + 1).toNatClampNeg) hrel
  refine lv_aload_n hx hb dL_law_288 rfl (lv_at hl 1 rfl) ?_
  refine lv_aload_n hx hb dL_law_289 rfl (lv_at hl 0 rfl) ?_
  refine lv_iload_n hx hb dL_law_290 rfl (lv_at hl 3 rfl) ?_
  refine lv_iconst (v := 1) hx hb dL_law_291 (by decide) ?_
  refine lv_iadd hx hb dL_law_292 ?_
  refine va_sld hx hb hX hbl hbA hS (y_in 1 ex3 hi hL (by decide)) dL_law_293 ?_
  refine y_goi (y_runV (As := [.int (xs (x3 + 1).toNatClampNeg)]) (rest := []) hx hb hml hown hts hKc hS (kX8_end l Gc Sc 0 (xs (x3 + 1).toNatClampNeg) r Sc' rfl e1) qw869 okX8_end ⟨Nat.le_of_ble_eq_true rfl, Nat.le_of_ble_eq_true rfl⟩ rfl (by decide) rfl hPc rfl hl.1 rfl (Nat.le_of_ble_eq_true rfl) dL_law_294 ⟨Nat.le_of_ble_eq_true rfl, Nat.le_of_ble_eq_true rfl⟩) hS hKc.2.2.2 hPm hdis (fun H locs hPc hPm hS => ?_)
  refine lv_aload_n hx hb dL_law_297 rfl (lv_at hl 2 rfl) ?_
  refine lv_aload_n hx hb dL_law_298 rfl (lv_at hl 0 rfl) ?_
  refine lv_iload_n hx hb dL_law_299 rfl (lv_at hl 3 rfl) ?_
  refine lv_iconst (v := 1) hx hb dL_law_300 (by decide) ?_
  refine lv_iadd hx hb dL_law_301 ?_
  refine va_sld hx hb hX hbl hbA hS (y_in 1 ex3 hi hL (by decide)) dL_law_302 ?_
  refine y_goi (y_runV (As := [.int (xs (x3 + 1).toNatClampNeg)]) (rest := [.int r]) hx hb hml hown hts hKm hS (kX9_end l Gm Sm 0 (xs (x3 + 1).toNatClampNeg) r Sm' rfl e2) qw870 okX9_end ⟨Nat.le_of_ble_eq_true rfl, Nat.le_of_ble_eq_true rfl⟩ rfl (by decide) rfl hPm rfl hl.1 rfl (Nat.le_of_ble_eq_true rfl) dL_law_303 ⟨Nat.le_of_ble_eq_true rfl, Nat.le_of_ble_eq_true rfl⟩) hS hKm.2.2.2 hPc (fun q h1 h2 => hdis q h2 h1) (fun H locs hPm hPc hS => ?_)
  refine lv_icmp_eq (tgt := 974) hx hb dL_law_306 (by decide) (fun _ => ?_) (fun c => absurd rfl c)
  exact next Sc' Sm' H locs ls hrel' hPc hPm hS hl
set_option maxHeartbeats 4000000 in
set_option maxRecDepth 100000 in
theorem law_text {p : Program} {l : Launch} {e : Env} {s : State} {m : MethodId} {below : List Frame} {meth : Method} {c : Code} {b L : Nat} {xs : Nat → Int32} {Gc Gm : xG} (Z : yZ p s m meth c b L xs Gc Gm) {Rel : xS → xS → Prop} (hs : sim_text Rel) {i : Nat} (hi : i + 6 ≤ L) (hL : L ≤ 3072) {x3 : Int32} (ex3 : x3 = nI i) {Sc Sm : xS} (hrel : Rel Sc Sm) {H : Heap} {locs : List Loc} {ls : Array Slot} (hPc : xP Gc Yc Sc H) (hPm : xP Gm Ym Sm H) (hS : va_S (yA s) s.heap H locs) (hl : lv_has ls 4 [(0, .ref b), (1, .ref (xad Gc 0)), (2, .ref (xad Gm 0)), (3, .int x3)]) (next : ∀ (Sc Sm : xS) (H : Heap) (locs : List Loc) (ls : Array Slot), Rel Sc Sm → xP Gc Yc Sc H → xP Gm Ym Sm H → va_S (yA s) s.heap H locs → lv_has ls 4 [(0, .ref b), (1, .ref (xad Gc 0)), (2, .ref (xad Gm 0)), (3, .int x3)] → W p l e room_1 s m #[Value.ref b] below meth c H locs 62 12897 (lw_Z below #[Value.ref b] s) (F0 m 974 ls [])) : W p l e room_1 s m #[Value.ref b] below meth c H locs 62 12897 (lw_Z below #[Value.ref b] s) (F0 m 311 ls []) := by
  obtain ⟨hx, hb, hml, hown, hts, hr, hlk, hKc, hKm, hdis, hX, hbl⟩ := id Z
  have hbA : ¬ yA s b := Nat.not_le.mpr hbl
  obtain ⟨r, Sc', Sm', e1, e2, hrel'⟩ := hs Sc Sm  hrel
  refine lv_aload_n hx hb dL_law_311 rfl (lv_at hl 1 rfl) ?_
  refine y_goi (y_runV (As := []) (rest := []) hx hb hml hown hts hKc hS (kX8_text l Gc Sc 0  r Sc' rfl e1) qw871 okX8_text ⟨Nat.le_of_ble_eq_true rfl, Nat.le_of_ble_eq_true rfl⟩ rfl (by decide) rfl hPc rfl hl.1 rfl (Nat.le_of_ble_eq_true rfl) dL_law_312 ⟨Nat.le_of_ble_eq_true rfl, Nat.le_of_ble_eq_true rfl⟩) hS hKc.2.2.2 hPm hdis (fun H locs hPc hPm hS => ?_)
  refine lv_aload_n hx hb dL_law_315 rfl (lv_at hl 2 rfl) ?_
  refine y_goi (y_runV (As := []) (rest := [.int r]) hx hb hml hown hts hKm hS (kX9_text l Gm Sm 0  r Sm' rfl e2) qw872 okX9_text ⟨Nat.le_of_ble_eq_true rfl, Nat.le_of_ble_eq_true rfl⟩ rfl (by decide) rfl hPm rfl hl.1 rfl (Nat.le_of_ble_eq_true rfl) dL_law_316 ⟨Nat.le_of_ble_eq_true rfl, Nat.le_of_ble_eq_true rfl⟩) hS hKm.2.2.2 hPc (fun q h1 h2 => hdis q h2 h1) (fun H locs hPm hPc hS => ?_)
  refine lv_icmp_eq (tgt := 974) hx hb dL_law_319 (by decide) (fun _ => ?_) (fun c => absurd rfl c)
  exact next Sc' Sm' H locs ls hrel' hPc hPm hS hl
set_option maxHeartbeats 4000000 in
set_option maxRecDepth 100000 in
theorem law_fault {p : Program} {l : Launch} {e : Env} {s : State} {m : MethodId} {below : List Frame} {meth : Method} {c : Code} {b L : Nat} {xs : Nat → Int32} {Gc Gm : xG} (Z : yZ p s m meth c b L xs Gc Gm) {Rel : xS → xS → Prop} (hs : sim_fault Rel) {i : Nat} (hi : i + 6 ≤ L) (hL : L ≤ 3072) {x3 : Int32} (ex3 : x3 = nI i) {Sc Sm : xS} (hrel : Rel Sc Sm) {H : Heap} {locs : List Loc} {ls : Array Slot} (hPc : xP Gc Yc Sc H) (hPm : xP Gm Ym Sm H) (hS : va_S (yA s) s.heap H locs) (hl : lv_has ls 4 [(0, .ref b), (1, .ref (xad Gc 0)), (2, .ref (xad Gm 0)), (3, .int x3)]) (next : ∀ (Sc Sm : xS) (H : Heap) (locs : List Loc) (ls : Array Slot), Rel Sc Sm → xP Gc Yc Sc H → xP Gm Ym Sm H → va_S (yA s) s.heap H locs → lv_has ls 4 [(0, .ref b), (1, .ref (xad Gc 0)), (2, .ref (xad Gm 0)), (3, .int x3)] → W p l e room_1 s m #[Value.ref b] below meth c H locs 62 12897 (lw_Z below #[Value.ref b] s) (F0 m 974 ls [])) : W p l e room_1 s m #[Value.ref b] below meth c H locs 62 12897 (lw_Z below #[Value.ref b] s) (F0 m 324 ls []) := by
  obtain ⟨hx, hb, hml, hown, hts, hr, hlk, hKc, hKm, hdis, hX, hbl⟩ := id Z
  have hbA : ¬ yA s b := Nat.not_le.mpr hbl
  obtain ⟨r, Sc', Sm', e1, e2, hrel'⟩ := hs Sc Sm (xs (x3 + 1).toNatClampNeg) hrel
  refine lv_aload_n hx hb dL_law_324 rfl (lv_at hl 1 rfl) ?_
  refine lv_aload_n hx hb dL_law_325 rfl (lv_at hl 0 rfl) ?_
  refine lv_iload_n hx hb dL_law_326 rfl (lv_at hl 3 rfl) ?_
  refine lv_iconst (v := 1) hx hb dL_law_327 (by decide) ?_
  refine lv_iadd hx hb dL_law_328 ?_
  refine va_sld hx hb hX hbl hbA hS (y_in 1 ex3 hi hL (by decide)) dL_law_329 ?_
  refine y_goi (y_runV (As := [.int (xs (x3 + 1).toNatClampNeg)]) (rest := []) hx hb hml hown hts hKc hS (kX8_fault l Gc Sc 0 (xs (x3 + 1).toNatClampNeg) r Sc' rfl e1) qw873 okX8_fault ⟨Nat.le_of_ble_eq_true rfl, Nat.le_of_ble_eq_true rfl⟩ rfl (by decide) rfl hPc rfl hl.1 rfl (Nat.le_of_ble_eq_true rfl) dL_law_330 ⟨Nat.le_of_ble_eq_true rfl, Nat.le_of_ble_eq_true rfl⟩) hS hKc.2.2.2 hPm hdis (fun H locs hPc hPm hS => ?_)
  refine lv_aload_n hx hb dL_law_333 rfl (lv_at hl 2 rfl) ?_
  refine lv_aload_n hx hb dL_law_334 rfl (lv_at hl 0 rfl) ?_
  refine lv_iload_n hx hb dL_law_335 rfl (lv_at hl 3 rfl) ?_
  refine lv_iconst (v := 1) hx hb dL_law_336 (by decide) ?_
  refine lv_iadd hx hb dL_law_337 ?_
  refine va_sld hx hb hX hbl hbA hS (y_in 1 ex3 hi hL (by decide)) dL_law_338 ?_
  refine y_goi (y_runV (As := [.int (xs (x3 + 1).toNatClampNeg)]) (rest := [.int r]) hx hb hml hown hts hKm hS (kX9_fault l Gm Sm 0 (xs (x3 + 1).toNatClampNeg) r Sm' rfl e2) qw874 okX9_fault ⟨Nat.le_of_ble_eq_true rfl, Nat.le_of_ble_eq_true rfl⟩ rfl (by decide) rfl hPm rfl hl.1 rfl (Nat.le_of_ble_eq_true rfl) dL_law_339 ⟨Nat.le_of_ble_eq_true rfl, Nat.le_of_ble_eq_true rfl⟩) hS hKm.2.2.2 hPc (fun q h1 h2 => hdis q h2 h1) (fun H locs hPm hPc hS => ?_)
  refine lv_icmp_eq (tgt := 974) hx hb dL_law_342 (by decide) (fun _ => ?_) (fun c => absurd rfl c)
  exact next Sc' Sm' H locs ls hrel' hPc hPm hS hl
set_option maxHeartbeats 4000000 in
set_option maxRecDepth 100000 in
theorem law_by {p : Program} {l : Launch} {e : Env} {s : State} {m : MethodId} {below : List Frame} {meth : Method} {c : Code} {b L : Nat} {xs : Nat → Int32} {Gc Gm : xG} (Z : yZ p s m meth c b L xs Gc Gm) {Rel : xS → xS → Prop} (hs : sim_by Rel) {i : Nat} (hi : i + 6 ≤ L) (hL : L ≤ 3072) {x3 : Int32} (ex3 : x3 = nI i) {Sc Sm : xS} (hrel : Rel Sc Sm) {H : Heap} {locs : List Loc} {ls : Array Slot} (hPc : xP Gc Yc Sc H) (hPm : xP Gm Ym Sm H) (hS : va_S (yA s) s.heap H locs) (hl : lv_has ls 4 [(0, .ref b), (1, .ref (xad Gc 0)), (2, .ref (xad Gm 0)), (3, .int x3)]) (next : ∀ (Sc Sm : xS) (H : Heap) (locs : List Loc) (ls : Array Slot), Rel Sc Sm → xP Gc Yc Sc H → xP Gm Ym Sm H → va_S (yA s) s.heap H locs → lv_has ls 4 [(0, .ref b), (1, .ref (xad Gc 0)), (2, .ref (xad Gm 0)), (3, .int x3)] → W p l e room_1 s m #[Value.ref b] below meth c H locs 62 12897 (lw_Z below #[Value.ref b] s) (F0 m 974 ls [])) : W p l e room_1 s m #[Value.ref b] below meth c H locs 62 12897 (lw_Z below #[Value.ref b] s) (F0 m 347 ls []) := by
  obtain ⟨hx, hb, hml, hown, hts, hr, hlk, hKc, hKm, hdis, hX, hbl⟩ := id Z
  have hbA : ¬ yA s b := Nat.not_le.mpr hbl
  obtain ⟨r, Sc', Sm', e1, e2, hrel'⟩ := hs Sc Sm (xs (x3 + 1).toNatClampNeg) hrel
  refine lv_aload_n hx hb dL_law_347 rfl (lv_at hl 1 rfl) ?_
  refine lv_aload_n hx hb dL_law_348 rfl (lv_at hl 0 rfl) ?_
  refine lv_iload_n hx hb dL_law_349 rfl (lv_at hl 3 rfl) ?_
  refine lv_iconst (v := 1) hx hb dL_law_350 (by decide) ?_
  refine lv_iadd hx hb dL_law_351 ?_
  refine va_sld hx hb hX hbl hbA hS (y_in 1 ex3 hi hL (by decide)) dL_law_352 ?_
  refine y_goi (y_runV (As := [.int (xs (x3 + 1).toNatClampNeg)]) (rest := []) hx hb hml hown hts hKc hS (kX8_by l Gc Sc 0 (xs (x3 + 1).toNatClampNeg) r Sc' rfl e1) qw875 okX8_by ⟨Nat.le_of_ble_eq_true rfl, Nat.le_of_ble_eq_true rfl⟩ rfl (by decide) rfl hPc rfl hl.1 rfl (Nat.le_of_ble_eq_true rfl) dL_law_353 ⟨Nat.le_of_ble_eq_true rfl, Nat.le_of_ble_eq_true rfl⟩) hS hKc.2.2.2 hPm hdis (fun H locs hPc hPm hS => ?_)
  refine lv_aload_n hx hb dL_law_356 rfl (lv_at hl 2 rfl) ?_
  refine lv_aload_n hx hb dL_law_357 rfl (lv_at hl 0 rfl) ?_
  refine lv_iload_n hx hb dL_law_358 rfl (lv_at hl 3 rfl) ?_
  refine lv_iconst (v := 1) hx hb dL_law_359 (by decide) ?_
  refine lv_iadd hx hb dL_law_360 ?_
  refine va_sld hx hb hX hbl hbA hS (y_in 1 ex3 hi hL (by decide)) dL_law_361 ?_
  refine y_goi (y_runV (As := [.int (xs (x3 + 1).toNatClampNeg)]) (rest := [.int r]) hx hb hml hown hts hKm hS (kX9_by l Gm Sm 0 (xs (x3 + 1).toNatClampNeg) r Sm' rfl e2) qw876 okX9_by ⟨Nat.le_of_ble_eq_true rfl, Nat.le_of_ble_eq_true rfl⟩ rfl (by decide) rfl hPm rfl hl.1 rfl (Nat.le_of_ble_eq_true rfl) dL_law_362 ⟨Nat.le_of_ble_eq_true rfl, Nat.le_of_ble_eq_true rfl⟩) hS hKm.2.2.2 hPc (fun q h1 h2 => hdis q h2 h1) (fun H locs hPm hPc hS => ?_)
  refine lv_icmp_eq (tgt := 974) hx hb dL_law_365 (by decide) (fun _ => ?_) (fun c => absurd rfl c)
  exact next Sc' Sm' H locs ls hrel' hPc hPm hS hl
set_option maxHeartbeats 4000000 in
set_option maxRecDepth 100000 in
theorem law_slices {p : Program} {l : Launch} {e : Env} {s : State} {m : MethodId} {below : List Frame} {meth : Method} {c : Code} {b L : Nat} {xs : Nat → Int32} {Gc Gm : xG} (Z : yZ p s m meth c b L xs Gc Gm) {Rel : xS → xS → Prop} (hs : sim_slices Rel) {i : Nat} (hi : i + 6 ≤ L) (hL : L ≤ 3072) {x3 : Int32} (ex3 : x3 = nI i) {Sc Sm : xS} (hrel : Rel Sc Sm) {H : Heap} {locs : List Loc} {ls : Array Slot} (hPc : xP Gc Yc Sc H) (hPm : xP Gm Ym Sm H) (hS : va_S (yA s) s.heap H locs) (hl : lv_has ls 4 [(0, .ref b), (1, .ref (xad Gc 0)), (2, .ref (xad Gm 0)), (3, .int x3)]) (next : ∀ (Sc Sm : xS) (H : Heap) (locs : List Loc) (ls : Array Slot), Rel Sc Sm → xP Gc Yc Sc H → xP Gm Ym Sm H → va_S (yA s) s.heap H locs → lv_has ls 4 [(0, .ref b), (1, .ref (xad Gc 0)), (2, .ref (xad Gm 0)), (3, .int x3)] → W p l e room_1 s m #[Value.ref b] below meth c H locs 62 12897 (lw_Z below #[Value.ref b] s) (F0 m 974 ls [])) : W p l e room_1 s m #[Value.ref b] below meth c H locs 62 12897 (lw_Z below #[Value.ref b] s) (F0 m 370 ls []) := by
  obtain ⟨hx, hb, hml, hown, hts, hr, hlk, hKc, hKm, hdis, hX, hbl⟩ := id Z
  have hbA : ¬ yA s b := Nat.not_le.mpr hbl
  obtain ⟨r, Sc', Sm', e1, e2, hrel'⟩ := hs Sc Sm (xs (x3 + 1).toNatClampNeg) (xs (x3 + 2).toNatClampNeg) hrel
  refine lv_aload_n hx hb dL_law_370 rfl (lv_at hl 1 rfl) ?_
  refine lv_aload_n hx hb dL_law_371 rfl (lv_at hl 0 rfl) ?_
  refine lv_iload_n hx hb dL_law_372 rfl (lv_at hl 3 rfl) ?_
  refine lv_iconst (v := 1) hx hb dL_law_373 (by decide) ?_
  refine lv_iadd hx hb dL_law_374 ?_
  refine va_sld hx hb hX hbl hbA hS (y_in 1 ex3 hi hL (by decide)) dL_law_375 ?_
  refine lv_aload_n hx hb dL_law_376 rfl (lv_at hl 0 rfl) ?_
  refine lv_iload_n hx hb dL_law_377 rfl (lv_at hl 3 rfl) ?_
  refine lv_iconst (v := 2) hx hb dL_law_378 (by decide) ?_
  refine lv_iadd hx hb dL_law_379 ?_
  refine va_sld hx hb hX hbl hbA hS (y_in 2 ex3 hi hL (by decide)) dL_law_380 ?_
  refine y_goi (y_runV (As := [.int (xs (x3 + 1).toNatClampNeg), .int (xs (x3 + 2).toNatClampNeg)]) (rest := []) hx hb hml hown hts hKc hS (kX8_slices l Gc Sc 0 (xs (x3 + 1).toNatClampNeg) (xs (x3 + 2).toNatClampNeg) r Sc' rfl e1) qw877 okX8_slices ⟨Nat.le_of_ble_eq_true rfl, Nat.le_of_ble_eq_true rfl⟩ rfl (by decide) rfl hPc rfl hl.1 rfl (Nat.le_of_ble_eq_true rfl) dL_law_381 ⟨Nat.le_of_ble_eq_true rfl, Nat.le_of_ble_eq_true rfl⟩) hS hKc.2.2.2 hPm hdis (fun H locs hPc hPm hS => ?_)
  refine lv_aload_n hx hb dL_law_384 rfl (lv_at hl 2 rfl) ?_
  refine lv_aload_n hx hb dL_law_385 rfl (lv_at hl 0 rfl) ?_
  refine lv_iload_n hx hb dL_law_386 rfl (lv_at hl 3 rfl) ?_
  refine lv_iconst (v := 1) hx hb dL_law_387 (by decide) ?_
  refine lv_iadd hx hb dL_law_388 ?_
  refine va_sld hx hb hX hbl hbA hS (y_in 1 ex3 hi hL (by decide)) dL_law_389 ?_
  refine lv_aload_n hx hb dL_law_390 rfl (lv_at hl 0 rfl) ?_
  refine lv_iload_n hx hb dL_law_391 rfl (lv_at hl 3 rfl) ?_
  refine lv_iconst (v := 2) hx hb dL_law_392 (by decide) ?_
  refine lv_iadd hx hb dL_law_393 ?_
  refine va_sld hx hb hX hbl hbA hS (y_in 2 ex3 hi hL (by decide)) dL_law_394 ?_
  refine y_goi (y_runV (As := [.int (xs (x3 + 1).toNatClampNeg), .int (xs (x3 + 2).toNatClampNeg)]) (rest := [.int r]) hx hb hml hown hts hKm hS (kX9_slices l Gm Sm 0 (xs (x3 + 1).toNatClampNeg) (xs (x3 + 2).toNatClampNeg) r Sm' rfl e2) qw878 okX9_slices ⟨Nat.le_of_ble_eq_true rfl, Nat.le_of_ble_eq_true rfl⟩ rfl (by decide) rfl hPm rfl hl.1 rfl (Nat.le_of_ble_eq_true rfl) dL_law_395 ⟨Nat.le_of_ble_eq_true rfl, Nat.le_of_ble_eq_true rfl⟩) hS hKm.2.2.2 hPc (fun q h1 h2 => hdis q h2 h1) (fun H locs hPm hPc hS => ?_)
  refine lv_icmp_eq (tgt := 974) hx hb dL_law_398 (by decide) (fun _ => ?_) (fun c => absurd rfl c)
  exact next Sc' Sm' H locs ls hrel' hPc hPm hS hl
set_option maxHeartbeats 4000000 in
set_option maxRecDepth 100000 in
theorem law_seat {p : Program} {l : Launch} {e : Env} {s : State} {m : MethodId} {below : List Frame} {meth : Method} {c : Code} {b L : Nat} {xs : Nat → Int32} {Gc Gm : xG} (Z : yZ p s m meth c b L xs Gc Gm) {Rel : xS → xS → Prop} (hs : sim_seat Rel) {i : Nat} (hi : i + 6 ≤ L) (hL : L ≤ 3072) {x3 : Int32} (ex3 : x3 = nI i) {Sc Sm : xS} (hrel : Rel Sc Sm) {H : Heap} {locs : List Loc} {ls : Array Slot} (hPc : xP Gc Yc Sc H) (hPm : xP Gm Ym Sm H) (hS : va_S (yA s) s.heap H locs) (hl : lv_has ls 4 [(0, .ref b), (1, .ref (xad Gc 0)), (2, .ref (xad Gm 0)), (3, .int x3)]) (next : ∀ (Sc Sm : xS) (H : Heap) (locs : List Loc) (ls : Array Slot), Rel Sc Sm → xP Gc Yc Sc H → xP Gm Ym Sm H → va_S (yA s) s.heap H locs → lv_has ls 4 [(0, .ref b), (1, .ref (xad Gc 0)), (2, .ref (xad Gm 0)), (3, .int x3)] → W p l e room_1 s m #[Value.ref b] below meth c H locs 62 12897 (lw_Z below #[Value.ref b] s) (F0 m 974 ls [])) : W p l e room_1 s m #[Value.ref b] below meth c H locs 62 12897 (lw_Z below #[Value.ref b] s) (F0 m 403 ls []) := by
  obtain ⟨hx, hb, hml, hown, hts, hr, hlk, hKc, hKm, hdis, hX, hbl⟩ := id Z
  have hbA : ¬ yA s b := Nat.not_le.mpr hbl
  obtain ⟨r, Sc', Sm', e1, e2, hrel'⟩ := hs Sc Sm (xs (x3 + 1).toNatClampNeg) (xs (x3 + 2).toNatClampNeg) hrel
  refine lv_aload_n hx hb dL_law_403 rfl (lv_at hl 1 rfl) ?_
  refine lv_aload_n hx hb dL_law_404 rfl (lv_at hl 0 rfl) ?_
  refine lv_iload_n hx hb dL_law_405 rfl (lv_at hl 3 rfl) ?_
  refine lv_iconst (v := 1) hx hb dL_law_406 (by decide) ?_
  refine lv_iadd hx hb dL_law_407 ?_
  refine va_sld hx hb hX hbl hbA hS (y_in 1 ex3 hi hL (by decide)) dL_law_408 ?_
  refine lv_aload_n hx hb dL_law_409 rfl (lv_at hl 0 rfl) ?_
  refine lv_iload_n hx hb dL_law_410 rfl (lv_at hl 3 rfl) ?_
  refine lv_iconst (v := 2) hx hb dL_law_411 (by decide) ?_
  refine lv_iadd hx hb dL_law_412 ?_
  refine va_sld hx hb hX hbl hbA hS (y_in 2 ex3 hi hL (by decide)) dL_law_413 ?_
  refine y_goi (y_runV (As := [.int (xs (x3 + 1).toNatClampNeg), .int (xs (x3 + 2).toNatClampNeg)]) (rest := []) hx hb hml hown hts hKc hS (kX8_seat l Gc Sc 0 (xs (x3 + 1).toNatClampNeg) (xs (x3 + 2).toNatClampNeg) r Sc' rfl e1) qw879 okX8_seat ⟨Nat.le_of_ble_eq_true rfl, Nat.le_of_ble_eq_true rfl⟩ rfl (by decide) rfl hPc rfl hl.1 rfl (Nat.le_of_ble_eq_true rfl) dL_law_414 ⟨Nat.le_of_ble_eq_true rfl, Nat.le_of_ble_eq_true rfl⟩) hS hKc.2.2.2 hPm hdis (fun H locs hPc hPm hS => ?_)
  refine lv_aload_n hx hb dL_law_417 rfl (lv_at hl 2 rfl) ?_
  refine lv_aload_n hx hb dL_law_418 rfl (lv_at hl 0 rfl) ?_
  refine lv_iload_n hx hb dL_law_419 rfl (lv_at hl 3 rfl) ?_
  refine lv_iconst (v := 1) hx hb dL_law_420 (by decide) ?_
  refine lv_iadd hx hb dL_law_421 ?_
  refine va_sld hx hb hX hbl hbA hS (y_in 1 ex3 hi hL (by decide)) dL_law_422 ?_
  refine lv_aload_n hx hb dL_law_423 rfl (lv_at hl 0 rfl) ?_
  refine lv_iload_n hx hb dL_law_424 rfl (lv_at hl 3 rfl) ?_
  refine lv_iconst (v := 2) hx hb dL_law_425 (by decide) ?_
  refine lv_iadd hx hb dL_law_426 ?_
  refine va_sld hx hb hX hbl hbA hS (y_in 2 ex3 hi hL (by decide)) dL_law_427 ?_
  refine y_goi (y_runV (As := [.int (xs (x3 + 1).toNatClampNeg), .int (xs (x3 + 2).toNatClampNeg)]) (rest := [.int r]) hx hb hml hown hts hKm hS (kX9_seat l Gm Sm 0 (xs (x3 + 1).toNatClampNeg) (xs (x3 + 2).toNatClampNeg) r Sm' rfl e2) qw880 okX9_seat ⟨Nat.le_of_ble_eq_true rfl, Nat.le_of_ble_eq_true rfl⟩ rfl (by decide) rfl hPm rfl hl.1 rfl (Nat.le_of_ble_eq_true rfl) dL_law_428 ⟨Nat.le_of_ble_eq_true rfl, Nat.le_of_ble_eq_true rfl⟩) hS hKm.2.2.2 hPc (fun q h1 h2 => hdis q h2 h1) (fun H locs hPm hPc hS => ?_)
  refine lv_icmp_eq (tgt := 974) hx hb dL_law_431 (by decide) (fun _ => ?_) (fun c => absurd rfl c)
  exact next Sc' Sm' H locs ls hrel' hPc hPm hS hl
set_option maxHeartbeats 4000000 in
set_option maxRecDepth 100000 in
theorem law_hide {p : Program} {l : Launch} {e : Env} {s : State} {m : MethodId} {below : List Frame} {meth : Method} {c : Code} {b L : Nat} {xs : Nat → Int32} {Gc Gm : xG} (Z : yZ p s m meth c b L xs Gc Gm) {Rel : xS → xS → Prop} (hs : sim_hide Rel) {i : Nat} (hi : i + 6 ≤ L) (hL : L ≤ 3072) {x3 : Int32} (ex3 : x3 = nI i) {Sc Sm : xS} (hrel : Rel Sc Sm) {H : Heap} {locs : List Loc} {ls : Array Slot} (hPc : xP Gc Yc Sc H) (hPm : xP Gm Ym Sm H) (hS : va_S (yA s) s.heap H locs) (hl : lv_has ls 4 [(0, .ref b), (1, .ref (xad Gc 0)), (2, .ref (xad Gm 0)), (3, .int x3)]) (next : ∀ (Sc Sm : xS) (H : Heap) (locs : List Loc) (ls : Array Slot), Rel Sc Sm → xP Gc Yc Sc H → xP Gm Ym Sm H → va_S (yA s) s.heap H locs → lv_has ls 4 [(0, .ref b), (1, .ref (xad Gc 0)), (2, .ref (xad Gm 0)), (3, .int x3)] → W p l e room_1 s m #[Value.ref b] below meth c H locs 62 12897 (lw_Z below #[Value.ref b] s) (F0 m 974 ls [])) : W p l e room_1 s m #[Value.ref b] below meth c H locs 62 12897 (lw_Z below #[Value.ref b] s) (F0 m 436 ls []) := by
  obtain ⟨hx, hb, hml, hown, hts, hr, hlk, hKc, hKm, hdis, hX, hbl⟩ := id Z
  have hbA : ¬ yA s b := Nat.not_le.mpr hbl
  obtain ⟨r, Sc', Sm', e1, e2, hrel'⟩ := hs Sc Sm (xs (x3 + 1).toNatClampNeg) (xs (x3 + 2).toNatClampNeg) hrel
  refine lv_aload_n hx hb dL_law_436 rfl (lv_at hl 1 rfl) ?_
  refine lv_aload_n hx hb dL_law_437 rfl (lv_at hl 0 rfl) ?_
  refine lv_iload_n hx hb dL_law_438 rfl (lv_at hl 3 rfl) ?_
  refine lv_iconst (v := 1) hx hb dL_law_439 (by decide) ?_
  refine lv_iadd hx hb dL_law_440 ?_
  refine va_sld hx hb hX hbl hbA hS (y_in 1 ex3 hi hL (by decide)) dL_law_441 ?_
  refine lv_aload_n hx hb dL_law_442 rfl (lv_at hl 0 rfl) ?_
  refine lv_iload_n hx hb dL_law_443 rfl (lv_at hl 3 rfl) ?_
  refine lv_iconst (v := 2) hx hb dL_law_444 (by decide) ?_
  refine lv_iadd hx hb dL_law_445 ?_
  refine va_sld hx hb hX hbl hbA hS (y_in 2 ex3 hi hL (by decide)) dL_law_446 ?_
  refine y_goi (y_runV (As := [.int (xs (x3 + 1).toNatClampNeg), .int (xs (x3 + 2).toNatClampNeg)]) (rest := []) hx hb hml hown hts hKc hS (kX8_hide l Gc Sc 0 (xs (x3 + 1).toNatClampNeg) (xs (x3 + 2).toNatClampNeg) r Sc' rfl e1) qw881 okX8_hide ⟨Nat.le_of_ble_eq_true rfl, Nat.le_of_ble_eq_true rfl⟩ rfl (by decide) rfl hPc rfl hl.1 rfl (Nat.le_of_ble_eq_true rfl) dL_law_447 ⟨Nat.le_of_ble_eq_true rfl, Nat.le_of_ble_eq_true rfl⟩) hS hKc.2.2.2 hPm hdis (fun H locs hPc hPm hS => ?_)
  refine lv_aload_n hx hb dL_law_450 rfl (lv_at hl 2 rfl) ?_
  refine lv_aload_n hx hb dL_law_451 rfl (lv_at hl 0 rfl) ?_
  refine lv_iload_n hx hb dL_law_452 rfl (lv_at hl 3 rfl) ?_
  refine lv_iconst (v := 1) hx hb dL_law_453 (by decide) ?_
  refine lv_iadd hx hb dL_law_454 ?_
  refine va_sld hx hb hX hbl hbA hS (y_in 1 ex3 hi hL (by decide)) dL_law_455 ?_
  refine lv_aload_n hx hb dL_law_456 rfl (lv_at hl 0 rfl) ?_
  refine lv_iload_n hx hb dL_law_457 rfl (lv_at hl 3 rfl) ?_
  refine lv_iconst (v := 2) hx hb dL_law_458 (by decide) ?_
  refine lv_iadd hx hb dL_law_459 ?_
  refine va_sld hx hb hX hbl hbA hS (y_in 2 ex3 hi hL (by decide)) dL_law_460 ?_
  refine y_goi (y_runV (As := [.int (xs (x3 + 1).toNatClampNeg), .int (xs (x3 + 2).toNatClampNeg)]) (rest := [.int r]) hx hb hml hown hts hKm hS (kX9_hide l Gm Sm 0 (xs (x3 + 1).toNatClampNeg) (xs (x3 + 2).toNatClampNeg) r Sm' rfl e2) qw882 okX9_hide ⟨Nat.le_of_ble_eq_true rfl, Nat.le_of_ble_eq_true rfl⟩ rfl (by decide) rfl hPm rfl hl.1 rfl (Nat.le_of_ble_eq_true rfl) dL_law_461 ⟨Nat.le_of_ble_eq_true rfl, Nat.le_of_ble_eq_true rfl⟩) hS hKm.2.2.2 hPc (fun q h1 h2 => hdis q h2 h1) (fun H locs hPm hPc hS => ?_)
  refine lv_icmp_eq (tgt := 974) hx hb dL_law_464 (by decide) (fun _ => ?_) (fun c => absurd rfl c)
  exact next Sc' Sm' H locs ls hrel' hPc hPm hS hl
set_option maxHeartbeats 4000000 in
set_option maxRecDepth 100000 in
theorem law_give {p : Program} {l : Launch} {e : Env} {s : State} {m : MethodId} {below : List Frame} {meth : Method} {c : Code} {b L : Nat} {xs : Nat → Int32} {Gc Gm : xG} (Z : yZ p s m meth c b L xs Gc Gm) {Rel : xS → xS → Prop} (hs : sim_give Rel) {i : Nat} (hi : i + 6 ≤ L) (hL : L ≤ 3072) {x3 : Int32} (ex3 : x3 = nI i) {Sc Sm : xS} (hrel : Rel Sc Sm) {H : Heap} {locs : List Loc} {ls : Array Slot} (hPc : xP Gc Yc Sc H) (hPm : xP Gm Ym Sm H) (hS : va_S (yA s) s.heap H locs) (hl : lv_has ls 4 [(0, .ref b), (1, .ref (xad Gc 0)), (2, .ref (xad Gm 0)), (3, .int x3)]) (next : ∀ (Sc Sm : xS) (H : Heap) (locs : List Loc) (ls : Array Slot), Rel Sc Sm → xP Gc Yc Sc H → xP Gm Ym Sm H → va_S (yA s) s.heap H locs → lv_has ls 4 [(0, .ref b), (1, .ref (xad Gc 0)), (2, .ref (xad Gm 0)), (3, .int x3)] → W p l e room_1 s m #[Value.ref b] below meth c H locs 62 12897 (lw_Z below #[Value.ref b] s) (F0 m 974 ls [])) : W p l e room_1 s m #[Value.ref b] below meth c H locs 62 12897 (lw_Z below #[Value.ref b] s) (F0 m 469 ls []) := by
  obtain ⟨hx, hb, hml, hown, hts, hr, hlk, hKc, hKm, hdis, hX, hbl⟩ := id Z
  have hbA : ¬ yA s b := Nat.not_le.mpr hbl
  obtain ⟨r, Sc', Sm', e1, e2, hrel'⟩ := hs Sc Sm (xs (x3 + 1).toNatClampNeg) (xs (x3 + 2).toNatClampNeg) hrel
  refine lv_aload_n hx hb dL_law_469 rfl (lv_at hl 1 rfl) ?_
  refine lv_aload_n hx hb dL_law_470 rfl (lv_at hl 0 rfl) ?_
  refine lv_iload_n hx hb dL_law_471 rfl (lv_at hl 3 rfl) ?_
  refine lv_iconst (v := 1) hx hb dL_law_472 (by decide) ?_
  refine lv_iadd hx hb dL_law_473 ?_
  refine va_sld hx hb hX hbl hbA hS (y_in 1 ex3 hi hL (by decide)) dL_law_474 ?_
  refine lv_aload_n hx hb dL_law_475 rfl (lv_at hl 0 rfl) ?_
  refine lv_iload_n hx hb dL_law_476 rfl (lv_at hl 3 rfl) ?_
  refine lv_iconst (v := 2) hx hb dL_law_477 (by decide) ?_
  refine lv_iadd hx hb dL_law_478 ?_
  refine va_sld hx hb hX hbl hbA hS (y_in 2 ex3 hi hL (by decide)) dL_law_479 ?_
  refine y_goi (y_runV (As := [.int (xs (x3 + 1).toNatClampNeg), .int (xs (x3 + 2).toNatClampNeg)]) (rest := []) hx hb hml hown hts hKc hS (kX8_give l Gc Sc 0 (xs (x3 + 1).toNatClampNeg) (xs (x3 + 2).toNatClampNeg) r Sc' rfl e1) qw883 okX8_give ⟨Nat.le_of_ble_eq_true rfl, Nat.le_of_ble_eq_true rfl⟩ rfl (by decide) rfl hPc rfl hl.1 rfl (Nat.le_of_ble_eq_true rfl) dL_law_480 ⟨Nat.le_of_ble_eq_true rfl, Nat.le_of_ble_eq_true rfl⟩) hS hKc.2.2.2 hPm hdis (fun H locs hPc hPm hS => ?_)
  refine lv_aload_n hx hb dL_law_483 rfl (lv_at hl 2 rfl) ?_
  refine lv_aload_n hx hb dL_law_484 rfl (lv_at hl 0 rfl) ?_
  refine lv_iload_n hx hb dL_law_485 rfl (lv_at hl 3 rfl) ?_
  refine lv_iconst (v := 1) hx hb dL_law_486 (by decide) ?_
  refine lv_iadd hx hb dL_law_487 ?_
  refine va_sld hx hb hX hbl hbA hS (y_in 1 ex3 hi hL (by decide)) dL_law_488 ?_
  refine lv_aload_n hx hb dL_law_489 rfl (lv_at hl 0 rfl) ?_
  refine lv_iload_n hx hb dL_law_490 rfl (lv_at hl 3 rfl) ?_
  refine lv_iconst (v := 2) hx hb dL_law_491 (by decide) ?_
  refine lv_iadd hx hb dL_law_492 ?_
  refine va_sld hx hb hX hbl hbA hS (y_in 2 ex3 hi hL (by decide)) dL_law_493 ?_
  refine y_goi (y_runV (As := [.int (xs (x3 + 1).toNatClampNeg), .int (xs (x3 + 2).toNatClampNeg)]) (rest := [.int r]) hx hb hml hown hts hKm hS (kX9_give l Gm Sm 0 (xs (x3 + 1).toNatClampNeg) (xs (x3 + 2).toNatClampNeg) r Sm' rfl e2) qw884 okX9_give ⟨Nat.le_of_ble_eq_true rfl, Nat.le_of_ble_eq_true rfl⟩ rfl (by decide) rfl hPm rfl hl.1 rfl (Nat.le_of_ble_eq_true rfl) dL_law_494 ⟨Nat.le_of_ble_eq_true rfl, Nat.le_of_ble_eq_true rfl⟩) hS hKm.2.2.2 hPc (fun q h1 h2 => hdis q h2 h1) (fun H locs hPm hPc hS => ?_)
  refine lv_icmp_eq (tgt := 974) hx hb dL_law_497 (by decide) (fun _ => ?_) (fun c => absurd rfl c)
  exact next Sc' Sm' H locs ls hrel' hPc hPm hS hl
set_option maxHeartbeats 4000000 in
set_option maxRecDepth 100000 in
theorem law_pass {p : Program} {l : Launch} {e : Env} {s : State} {m : MethodId} {below : List Frame} {meth : Method} {c : Code} {b L : Nat} {xs : Nat → Int32} {Gc Gm : xG} (Z : yZ p s m meth c b L xs Gc Gm) {Rel : xS → xS → Prop} (hs : sim_pass Rel) {i : Nat} (hi : i + 6 ≤ L) (hL : L ≤ 3072) {x3 : Int32} (ex3 : x3 = nI i) {Sc Sm : xS} (hrel : Rel Sc Sm) {H : Heap} {locs : List Loc} {ls : Array Slot} (hPc : xP Gc Yc Sc H) (hPm : xP Gm Ym Sm H) (hS : va_S (yA s) s.heap H locs) (hl : lv_has ls 4 [(0, .ref b), (1, .ref (xad Gc 0)), (2, .ref (xad Gm 0)), (3, .int x3)]) (next : ∀ (Sc Sm : xS) (H : Heap) (locs : List Loc) (ls : Array Slot), Rel Sc Sm → xP Gc Yc Sc H → xP Gm Ym Sm H → va_S (yA s) s.heap H locs → lv_has ls 4 [(0, .ref b), (1, .ref (xad Gc 0)), (2, .ref (xad Gm 0)), (3, .int x3)] → W p l e room_1 s m #[Value.ref b] below meth c H locs 62 12897 (lw_Z below #[Value.ref b] s) (F0 m 974 ls [])) : W p l e room_1 s m #[Value.ref b] below meth c H locs 62 12897 (lw_Z below #[Value.ref b] s) (F0 m 502 ls []) := by
  obtain ⟨hx, hb, hml, hown, hts, hr, hlk, hKc, hKm, hdis, hX, hbl⟩ := id Z
  have hbA : ¬ yA s b := Nat.not_le.mpr hbl
  obtain ⟨r, Sc', Sm', e1, e2, hrel'⟩ := hs Sc Sm (xs (x3 + 1).toNatClampNeg) hrel
  refine lv_aload_n hx hb dL_law_502 rfl (lv_at hl 1 rfl) ?_
  refine lv_aload_n hx hb dL_law_503 rfl (lv_at hl 0 rfl) ?_
  refine lv_iload_n hx hb dL_law_504 rfl (lv_at hl 3 rfl) ?_
  refine lv_iconst (v := 1) hx hb dL_law_505 (by decide) ?_
  refine lv_iadd hx hb dL_law_506 ?_
  refine va_sld hx hb hX hbl hbA hS (y_in 1 ex3 hi hL (by decide)) dL_law_507 ?_
  refine y_goi (y_runV (As := [.int (xs (x3 + 1).toNatClampNeg)]) (rest := []) hx hb hml hown hts hKc hS (kX8_pass l Gc Sc 0 (xs (x3 + 1).toNatClampNeg) r Sc' rfl e1) qw885 okX8_pass ⟨Nat.le_of_ble_eq_true rfl, Nat.le_of_ble_eq_true rfl⟩ rfl (by decide) rfl hPc rfl hl.1 rfl (Nat.le_of_ble_eq_true rfl) dL_law_508 ⟨Nat.le_of_ble_eq_true rfl, Nat.le_of_ble_eq_true rfl⟩) hS hKc.2.2.2 hPm hdis (fun H locs hPc hPm hS => ?_)
  refine lv_aload_n hx hb dL_law_511 rfl (lv_at hl 2 rfl) ?_
  refine lv_aload_n hx hb dL_law_512 rfl (lv_at hl 0 rfl) ?_
  refine lv_iload_n hx hb dL_law_513 rfl (lv_at hl 3 rfl) ?_
  refine lv_iconst (v := 1) hx hb dL_law_514 (by decide) ?_
  refine lv_iadd hx hb dL_law_515 ?_
  refine va_sld hx hb hX hbl hbA hS (y_in 1 ex3 hi hL (by decide)) dL_law_516 ?_
  refine y_goi (y_runV (As := [.int (xs (x3 + 1).toNatClampNeg)]) (rest := [.int r]) hx hb hml hown hts hKm hS (kX9_pass l Gm Sm 0 (xs (x3 + 1).toNatClampNeg) r Sm' rfl e2) qw886 okX9_pass ⟨Nat.le_of_ble_eq_true rfl, Nat.le_of_ble_eq_true rfl⟩ rfl (by decide) rfl hPm rfl hl.1 rfl (Nat.le_of_ble_eq_true rfl) dL_law_517 ⟨Nat.le_of_ble_eq_true rfl, Nat.le_of_ble_eq_true rfl⟩) hS hKm.2.2.2 hPc (fun q h1 h2 => hdis q h2 h1) (fun H locs hPm hPc hS => ?_)
  refine lv_icmp_eq (tgt := 974) hx hb dL_law_520 (by decide) (fun _ => ?_) (fun c => absurd rfl c)
  exact next Sc' Sm' H locs ls hrel' hPc hPm hS hl
set_option maxHeartbeats 4000000 in
set_option maxRecDepth 100000 in
theorem law_played {p : Program} {l : Launch} {e : Env} {s : State} {m : MethodId} {below : List Frame} {meth : Method} {c : Code} {b L : Nat} {xs : Nat → Int32} {Gc Gm : xG} (Z : yZ p s m meth c b L xs Gc Gm) {Rel : xS → xS → Prop} (hs : sim_played Rel) {i : Nat} (hi : i + 6 ≤ L) (hL : L ≤ 3072) {x3 : Int32} (ex3 : x3 = nI i) {Sc Sm : xS} (hrel : Rel Sc Sm) {H : Heap} {locs : List Loc} {ls : Array Slot} (hPc : xP Gc Yc Sc H) (hPm : xP Gm Ym Sm H) (hS : va_S (yA s) s.heap H locs) (hl : lv_has ls 4 [(0, .ref b), (1, .ref (xad Gc 0)), (2, .ref (xad Gm 0)), (3, .int x3)]) (next : ∀ (Sc Sm : xS) (H : Heap) (locs : List Loc) (ls : Array Slot), Rel Sc Sm → xP Gc Yc Sc H → xP Gm Ym Sm H → va_S (yA s) s.heap H locs → lv_has ls 4 [(0, .ref b), (1, .ref (xad Gc 0)), (2, .ref (xad Gm 0)), (3, .int x3)] → W p l e room_1 s m #[Value.ref b] below meth c H locs 62 12897 (lw_Z below #[Value.ref b] s) (F0 m 974 ls [])) : W p l e room_1 s m #[Value.ref b] below meth c H locs 62 12897 (lw_Z below #[Value.ref b] s) (F0 m 525 ls []) := by
  obtain ⟨hx, hb, hml, hown, hts, hr, hlk, hKc, hKm, hdis, hX, hbl⟩ := id Z
  have hbA : ¬ yA s b := Nat.not_le.mpr hbl
  obtain ⟨r, Sc', Sm', e1, e2, hrel'⟩ := hs Sc Sm (xs (x3 + 1).toNatClampNeg) hrel
  refine lv_aload_n hx hb dL_law_525 rfl (lv_at hl 1 rfl) ?_
  refine lv_aload_n hx hb dL_law_526 rfl (lv_at hl 0 rfl) ?_
  refine lv_iload_n hx hb dL_law_527 rfl (lv_at hl 3 rfl) ?_
  refine lv_iconst (v := 1) hx hb dL_law_528 (by decide) ?_
  refine lv_iadd hx hb dL_law_529 ?_
  refine va_sld hx hb hX hbl hbA hS (y_in 1 ex3 hi hL (by decide)) dL_law_530 ?_
  refine y_goi (y_runV (As := [.int (xs (x3 + 1).toNatClampNeg)]) (rest := []) hx hb hml hown hts hKc hS (kX8_played l Gc Sc 0 (xs (x3 + 1).toNatClampNeg) r Sc' rfl e1) qw887 okX8_played ⟨Nat.le_of_ble_eq_true rfl, Nat.le_of_ble_eq_true rfl⟩ rfl (by decide) rfl hPc rfl hl.1 rfl (Nat.le_of_ble_eq_true rfl) dL_law_531 ⟨Nat.le_of_ble_eq_true rfl, Nat.le_of_ble_eq_true rfl⟩) hS hKc.2.2.2 hPm hdis (fun H locs hPc hPm hS => ?_)
  refine lv_aload_n hx hb dL_law_534 rfl (lv_at hl 2 rfl) ?_
  refine lv_aload_n hx hb dL_law_535 rfl (lv_at hl 0 rfl) ?_
  refine lv_iload_n hx hb dL_law_536 rfl (lv_at hl 3 rfl) ?_
  refine lv_iconst (v := 1) hx hb dL_law_537 (by decide) ?_
  refine lv_iadd hx hb dL_law_538 ?_
  refine va_sld hx hb hX hbl hbA hS (y_in 1 ex3 hi hL (by decide)) dL_law_539 ?_
  refine y_goi (y_runV (As := [.int (xs (x3 + 1).toNatClampNeg)]) (rest := [.int r]) hx hb hml hown hts hKm hS (kX9_played l Gm Sm 0 (xs (x3 + 1).toNatClampNeg) r Sm' rfl e2) qw888 okX9_played ⟨Nat.le_of_ble_eq_true rfl, Nat.le_of_ble_eq_true rfl⟩ rfl (by decide) rfl hPm rfl hl.1 rfl (Nat.le_of_ble_eq_true rfl) dL_law_540 ⟨Nat.le_of_ble_eq_true rfl, Nat.le_of_ble_eq_true rfl⟩) hS hKm.2.2.2 hPc (fun q h1 h2 => hdis q h2 h1) (fun H locs hPm hPc hS => ?_)
  refine lv_icmp_eq (tgt := 974) hx hb dL_law_543 (by decide) (fun _ => ?_) (fun c => absurd rfl c)
  exact next Sc' Sm' H locs ls hrel' hPc hPm hS hl
set_option maxHeartbeats 4000000 in
set_option maxRecDepth 100000 in
theorem law_undo {p : Program} {l : Launch} {e : Env} {s : State} {m : MethodId} {below : List Frame} {meth : Method} {c : Code} {b L : Nat} {xs : Nat → Int32} {Gc Gm : xG} (Z : yZ p s m meth c b L xs Gc Gm) {Rel : xS → xS → Prop} (hs : sim_undo Rel) {i : Nat} (hi : i + 6 ≤ L) (hL : L ≤ 3072) {x3 : Int32} (ex3 : x3 = nI i) {Sc Sm : xS} (hrel : Rel Sc Sm) {H : Heap} {locs : List Loc} {ls : Array Slot} (hPc : xP Gc Yc Sc H) (hPm : xP Gm Ym Sm H) (hS : va_S (yA s) s.heap H locs) (hl : lv_has ls 4 [(0, .ref b), (1, .ref (xad Gc 0)), (2, .ref (xad Gm 0)), (3, .int x3)]) (next : ∀ (Sc Sm : xS) (H : Heap) (locs : List Loc) (ls : Array Slot), Rel Sc Sm → xP Gc Yc Sc H → xP Gm Ym Sm H → va_S (yA s) s.heap H locs → lv_has ls 4 [(0, .ref b), (1, .ref (xad Gc 0)), (2, .ref (xad Gm 0)), (3, .int x3)] → W p l e room_1 s m #[Value.ref b] below meth c H locs 62 12897 (lw_Z below #[Value.ref b] s) (F0 m 974 ls [])) : W p l e room_1 s m #[Value.ref b] below meth c H locs 62 12897 (lw_Z below #[Value.ref b] s) (F0 m 548 ls []) := by
  obtain ⟨hx, hb, hml, hown, hts, hr, hlk, hKc, hKm, hdis, hX, hbl⟩ := id Z
  have hbA : ¬ yA s b := Nat.not_le.mpr hbl
  obtain ⟨r, Sc', Sm', e1, e2, hrel'⟩ := hs Sc Sm  hrel
  refine lv_aload_n hx hb dL_law_548 rfl (lv_at hl 1 rfl) ?_
  refine y_goi (y_runV (As := []) (rest := []) hx hb hml hown hts hKc hS (kX8_undo l Gc Sc 0  r Sc' rfl e1) qw889 okX8_undo ⟨Nat.le_of_ble_eq_true rfl, Nat.le_of_ble_eq_true rfl⟩ rfl (by decide) rfl hPc rfl hl.1 rfl (Nat.le_of_ble_eq_true rfl) dL_law_549 ⟨Nat.le_of_ble_eq_true rfl, Nat.le_of_ble_eq_true rfl⟩) hS hKc.2.2.2 hPm hdis (fun H locs hPc hPm hS => ?_)
  refine lv_aload_n hx hb dL_law_552 rfl (lv_at hl 2 rfl) ?_
  refine y_goi (y_runV (As := []) (rest := [.int r]) hx hb hml hown hts hKm hS (kX9_undo l Gm Sm 0  r Sm' rfl e2) qw890 okX9_undo ⟨Nat.le_of_ble_eq_true rfl, Nat.le_of_ble_eq_true rfl⟩ rfl (by decide) rfl hPm rfl hl.1 rfl (Nat.le_of_ble_eq_true rfl) dL_law_553 ⟨Nat.le_of_ble_eq_true rfl, Nat.le_of_ble_eq_true rfl⟩) hS hKm.2.2.2 hPc (fun q h1 h2 => hdis q h2 h1) (fun H locs hPm hPc hS => ?_)
  refine lv_icmp_eq (tgt := 974) hx hb dL_law_556 (by decide) (fun _ => ?_) (fun c => absurd rfl c)
  exact next Sc' Sm' H locs ls hrel' hPc hPm hS hl
set_option maxHeartbeats 4000000 in
set_option maxRecDepth 100000 in
theorem law_of {p : Program} {l : Launch} {e : Env} {s : State} {m : MethodId} {below : List Frame} {meth : Method} {c : Code} {b L : Nat} {xs : Nat → Int32} {Gc Gm : xG} (Z : yZ p s m meth c b L xs Gc Gm) {Rel : xS → xS → Prop} (hs : sim_of Rel) {i : Nat} (hi : i + 6 ≤ L) (hL : L ≤ 3072) {x3 : Int32} (ex3 : x3 = nI i) {Sc Sm : xS} (hrel : Rel Sc Sm) {H : Heap} {locs : List Loc} {ls : Array Slot} (hPc : xP Gc Yc Sc H) (hPm : xP Gm Ym Sm H) (hS : va_S (yA s) s.heap H locs) (hl : lv_has ls 4 [(0, .ref b), (1, .ref (xad Gc 0)), (2, .ref (xad Gm 0)), (3, .int x3)]) (next : ∀ (Sc Sm : xS) (H : Heap) (locs : List Loc) (ls : Array Slot), Rel Sc Sm → xP Gc Yc Sc H → xP Gm Ym Sm H → va_S (yA s) s.heap H locs → lv_has ls 4 [(0, .ref b), (1, .ref (xad Gc 0)), (2, .ref (xad Gm 0)), (3, .int x3)] → W p l e room_1 s m #[Value.ref b] below meth c H locs 62 12897 (lw_Z below #[Value.ref b] s) (F0 m 974 ls [])) : W p l e room_1 s m #[Value.ref b] below meth c H locs 62 12897 (lw_Z below #[Value.ref b] s) (F0 m 561 ls []) := by
  obtain ⟨hx, hb, hml, hown, hts, hr, hlk, hKc, hKm, hdis, hX, hbl⟩ := id Z
  have hbA : ¬ yA s b := Nat.not_le.mpr hbl
  obtain ⟨r, Sc', Sm', e1, e2, hrel'⟩ := hs Sc Sm (xs (x3 + 1).toNatClampNeg) (xs (x3 + 2).toNatClampNeg) hrel
  refine lv_aload_n hx hb dL_law_561 rfl (lv_at hl 1 rfl) ?_
  refine lv_aload_n hx hb dL_law_562 rfl (lv_at hl 0 rfl) ?_
  refine lv_iload_n hx hb dL_law_563 rfl (lv_at hl 3 rfl) ?_
  refine lv_iconst (v := 1) hx hb dL_law_564 (by decide) ?_
  refine lv_iadd hx hb dL_law_565 ?_
  refine va_sld hx hb hX hbl hbA hS (y_in 1 ex3 hi hL (by decide)) dL_law_566 ?_
  refine lv_aload_n hx hb dL_law_567 rfl (lv_at hl 0 rfl) ?_
  refine lv_iload_n hx hb dL_law_568 rfl (lv_at hl 3 rfl) ?_
  refine lv_iconst (v := 2) hx hb dL_law_569 (by decide) ?_
  refine lv_iadd hx hb dL_law_570 ?_
  refine va_sld hx hb hX hbl hbA hS (y_in 2 ex3 hi hL (by decide)) dL_law_571 ?_
  refine y_goi (y_runV (As := [.int (xs (x3 + 1).toNatClampNeg), .int (xs (x3 + 2).toNatClampNeg)]) (rest := []) hx hb hml hown hts hKc hS (kX8_of l Gc Sc 0 (xs (x3 + 1).toNatClampNeg) (xs (x3 + 2).toNatClampNeg) r Sc' rfl e1) qw891 okX8_of ⟨Nat.le_of_ble_eq_true rfl, Nat.le_of_ble_eq_true rfl⟩ rfl (by decide) rfl hPc rfl hl.1 rfl (Nat.le_of_ble_eq_true rfl) dL_law_572 ⟨Nat.le_of_ble_eq_true rfl, Nat.le_of_ble_eq_true rfl⟩) hS hKc.2.2.2 hPm hdis (fun H locs hPc hPm hS => ?_)
  refine lv_aload_n hx hb dL_law_575 rfl (lv_at hl 2 rfl) ?_
  refine lv_aload_n hx hb dL_law_576 rfl (lv_at hl 0 rfl) ?_
  refine lv_iload_n hx hb dL_law_577 rfl (lv_at hl 3 rfl) ?_
  refine lv_iconst (v := 1) hx hb dL_law_578 (by decide) ?_
  refine lv_iadd hx hb dL_law_579 ?_
  refine va_sld hx hb hX hbl hbA hS (y_in 1 ex3 hi hL (by decide)) dL_law_580 ?_
  refine lv_aload_n hx hb dL_law_581 rfl (lv_at hl 0 rfl) ?_
  refine lv_iload_n hx hb dL_law_582 rfl (lv_at hl 3 rfl) ?_
  refine lv_iconst (v := 2) hx hb dL_law_583 (by decide) ?_
  refine lv_iadd hx hb dL_law_584 ?_
  refine va_sld hx hb hX hbl hbA hS (y_in 2 ex3 hi hL (by decide)) dL_law_585 ?_
  refine y_goi (y_runV (As := [.int (xs (x3 + 1).toNatClampNeg), .int (xs (x3 + 2).toNatClampNeg)]) (rest := [.int r]) hx hb hml hown hts hKm hS (kX9_of l Gm Sm 0 (xs (x3 + 1).toNatClampNeg) (xs (x3 + 2).toNatClampNeg) r Sm' rfl e2) qw892 okX9_of ⟨Nat.le_of_ble_eq_true rfl, Nat.le_of_ble_eq_true rfl⟩ rfl (by decide) rfl hPm rfl hl.1 rfl (Nat.le_of_ble_eq_true rfl) dL_law_586 ⟨Nat.le_of_ble_eq_true rfl, Nat.le_of_ble_eq_true rfl⟩) hS hKm.2.2.2 hPc (fun q h1 h2 => hdis q h2 h1) (fun H locs hPm hPc hS => ?_)
  refine lv_icmp_eq (tgt := 974) hx hb dL_law_589 (by decide) (fun _ => ?_) (fun c => absurd rfl c)
  exact next Sc' Sm' H locs ls hrel' hPc hPm hS hl
set_option maxHeartbeats 4000000 in
set_option maxRecDepth 100000 in
theorem law_sisterOf {p : Program} {l : Launch} {e : Env} {s : State} {m : MethodId} {below : List Frame} {meth : Method} {c : Code} {b L : Nat} {xs : Nat → Int32} {Gc Gm : xG} (Z : yZ p s m meth c b L xs Gc Gm) {Rel : xS → xS → Prop} (hs : sim_sisterOf Rel) {i : Nat} (hi : i + 6 ≤ L) (hL : L ≤ 3072) {x3 : Int32} (ex3 : x3 = nI i) {Sc Sm : xS} (hrel : Rel Sc Sm) {H : Heap} {locs : List Loc} {ls : Array Slot} (hPc : xP Gc Yc Sc H) (hPm : xP Gm Ym Sm H) (hS : va_S (yA s) s.heap H locs) (hl : lv_has ls 4 [(0, .ref b), (1, .ref (xad Gc 0)), (2, .ref (xad Gm 0)), (3, .int x3)]) (next : ∀ (Sc Sm : xS) (H : Heap) (locs : List Loc) (ls : Array Slot), Rel Sc Sm → xP Gc Yc Sc H → xP Gm Ym Sm H → va_S (yA s) s.heap H locs → lv_has ls 4 [(0, .ref b), (1, .ref (xad Gc 0)), (2, .ref (xad Gm 0)), (3, .int x3)] → W p l e room_1 s m #[Value.ref b] below meth c H locs 62 12897 (lw_Z below #[Value.ref b] s) (F0 m 974 ls [])) : W p l e room_1 s m #[Value.ref b] below meth c H locs 62 12897 (lw_Z below #[Value.ref b] s) (F0 m 594 ls []) := by
  obtain ⟨hx, hb, hml, hown, hts, hr, hlk, hKc, hKm, hdis, hX, hbl⟩ := id Z
  have hbA : ¬ yA s b := Nat.not_le.mpr hbl
  obtain ⟨r, Sc', Sm', e1, e2, hrel'⟩ := hs Sc Sm (xs (x3 + 1).toNatClampNeg) (xs (x3 + 2).toNatClampNeg) hrel
  refine lv_aload_n hx hb dL_law_594 rfl (lv_at hl 1 rfl) ?_
  refine lv_aload_n hx hb dL_law_595 rfl (lv_at hl 0 rfl) ?_
  refine lv_iload_n hx hb dL_law_596 rfl (lv_at hl 3 rfl) ?_
  refine lv_iconst (v := 1) hx hb dL_law_597 (by decide) ?_
  refine lv_iadd hx hb dL_law_598 ?_
  refine va_sld hx hb hX hbl hbA hS (y_in 1 ex3 hi hL (by decide)) dL_law_599 ?_
  refine lv_aload_n hx hb dL_law_600 rfl (lv_at hl 0 rfl) ?_
  refine lv_iload_n hx hb dL_law_601 rfl (lv_at hl 3 rfl) ?_
  refine lv_iconst (v := 2) hx hb dL_law_602 (by decide) ?_
  refine lv_iadd hx hb dL_law_603 ?_
  refine va_sld hx hb hX hbl hbA hS (y_in 2 ex3 hi hL (by decide)) dL_law_604 ?_
  refine y_goi (y_runV (As := [.int (xs (x3 + 1).toNatClampNeg), .int (xs (x3 + 2).toNatClampNeg)]) (rest := []) hx hb hml hown hts hKc hS (kX8_sisterOf l Gc Sc 0 (xs (x3 + 1).toNatClampNeg) (xs (x3 + 2).toNatClampNeg) r Sc' rfl e1) qw893 okX8_sisterOf ⟨Nat.le_of_ble_eq_true rfl, Nat.le_of_ble_eq_true rfl⟩ rfl (by decide) rfl hPc rfl hl.1 rfl (Nat.le_of_ble_eq_true rfl) dL_law_605 ⟨Nat.le_of_ble_eq_true rfl, Nat.le_of_ble_eq_true rfl⟩) hS hKc.2.2.2 hPm hdis (fun H locs hPc hPm hS => ?_)
  refine lv_aload_n hx hb dL_law_608 rfl (lv_at hl 2 rfl) ?_
  refine lv_aload_n hx hb dL_law_609 rfl (lv_at hl 0 rfl) ?_
  refine lv_iload_n hx hb dL_law_610 rfl (lv_at hl 3 rfl) ?_
  refine lv_iconst (v := 1) hx hb dL_law_611 (by decide) ?_
  refine lv_iadd hx hb dL_law_612 ?_
  refine va_sld hx hb hX hbl hbA hS (y_in 1 ex3 hi hL (by decide)) dL_law_613 ?_
  refine lv_aload_n hx hb dL_law_614 rfl (lv_at hl 0 rfl) ?_
  refine lv_iload_n hx hb dL_law_615 rfl (lv_at hl 3 rfl) ?_
  refine lv_iconst (v := 2) hx hb dL_law_616 (by decide) ?_
  refine lv_iadd hx hb dL_law_617 ?_
  refine va_sld hx hb hX hbl hbA hS (y_in 2 ex3 hi hL (by decide)) dL_law_618 ?_
  refine y_goi (y_runV (As := [.int (xs (x3 + 1).toNatClampNeg), .int (xs (x3 + 2).toNatClampNeg)]) (rest := [.int r]) hx hb hml hown hts hKm hS (kX9_sisterOf l Gm Sm 0 (xs (x3 + 1).toNatClampNeg) (xs (x3 + 2).toNatClampNeg) r Sm' rfl e2) qw894 okX9_sisterOf ⟨Nat.le_of_ble_eq_true rfl, Nat.le_of_ble_eq_true rfl⟩ rfl (by decide) rfl hPm rfl hl.1 rfl (Nat.le_of_ble_eq_true rfl) dL_law_619 ⟨Nat.le_of_ble_eq_true rfl, Nat.le_of_ble_eq_true rfl⟩) hS hKm.2.2.2 hPc (fun q h1 h2 => hdis q h2 h1) (fun H locs hPm hPc hS => ?_)
  refine lv_icmp_eq (tgt := 974) hx hb dL_law_622 (by decide) (fun _ => ?_) (fun c => absurd rfl c)
  exact next Sc' Sm' H locs ls hrel' hPc hPm hS hl
set_option maxHeartbeats 4000000 in
set_option maxRecDepth 100000 in
theorem law_comes {p : Program} {l : Launch} {e : Env} {s : State} {m : MethodId} {below : List Frame} {meth : Method} {c : Code} {b L : Nat} {xs : Nat → Int32} {Gc Gm : xG} (Z : yZ p s m meth c b L xs Gc Gm) {Rel : xS → xS → Prop} (hs : sim_comes Rel) {i : Nat} (hi : i + 6 ≤ L) (hL : L ≤ 3072) {x3 : Int32} (ex3 : x3 = nI i) {Sc Sm : xS} (hrel : Rel Sc Sm) {H : Heap} {locs : List Loc} {ls : Array Slot} (hPc : xP Gc Yc Sc H) (hPm : xP Gm Ym Sm H) (hS : va_S (yA s) s.heap H locs) (hl : lv_has ls 4 [(0, .ref b), (1, .ref (xad Gc 0)), (2, .ref (xad Gm 0)), (3, .int x3)]) (next : ∀ (Sc Sm : xS) (H : Heap) (locs : List Loc) (ls : Array Slot), Rel Sc Sm → xP Gc Yc Sc H → xP Gm Ym Sm H → va_S (yA s) s.heap H locs → lv_has ls 4 [(0, .ref b), (1, .ref (xad Gc 0)), (2, .ref (xad Gm 0)), (3, .int x3)] → W p l e room_1 s m #[Value.ref b] below meth c H locs 62 12897 (lw_Z below #[Value.ref b] s) (F0 m 974 ls [])) : W p l e room_1 s m #[Value.ref b] below meth c H locs 62 12897 (lw_Z below #[Value.ref b] s) (F0 m 627 ls []) := by
  obtain ⟨hx, hb, hml, hown, hts, hr, hlk, hKc, hKm, hdis, hX, hbl⟩ := id Z
  have hbA : ¬ yA s b := Nat.not_le.mpr hbl
  by_cases hz : (xs (x3 + 3).toNatClampNeg) = 0
  · obtain ⟨r, Sc', Sm', e1, e2, hrel'⟩ := hs Sc Sm (xs (x3 + 1).toNatClampNeg) (xs (x3 + 2).toNatClampNeg) 0 hrel (Or.inl rfl)
    refine lv_aload_n hx hb dL_law_627 rfl (lv_at hl 1 rfl) ?_
    refine lv_aload_n hx hb dL_law_628 rfl (lv_at hl 0 rfl) ?_
    refine lv_iload_n hx hb dL_law_629 rfl (lv_at hl 3 rfl) ?_
    refine lv_iconst (v := 1) hx hb dL_law_630 (by decide) ?_
    refine lv_iadd hx hb dL_law_631 ?_
    refine va_sld hx hb hX hbl hbA hS (y_in 1 ex3 hi hL (by decide)) dL_law_632 ?_
    refine lv_aload_n hx hb dL_law_633 rfl (lv_at hl 0 rfl) ?_
    refine lv_iload_n hx hb dL_law_634 rfl (lv_at hl 3 rfl) ?_
    refine lv_iconst (v := 2) hx hb dL_law_635 (by decide) ?_
    refine lv_iadd hx hb dL_law_636 ?_
    refine va_sld hx hb hX hbl hbA hS (y_in 2 ex3 hi hL (by decide)) dL_law_637 ?_
    refine lv_aload_n hx hb dL_law_638 rfl (lv_at hl 0 rfl) ?_
    refine lv_iload_n hx hb dL_law_639 rfl (lv_at hl 3 rfl) ?_
    refine lv_iconst (v := 3) hx hb dL_law_640 (by decide) ?_
    refine lv_iadd hx hb dL_law_641 ?_
    refine va_sld hx hb hX hbl hbA hS (y_in 3 ex3 hi hL (by decide)) dL_law_642 ?_
    refine lv_if_eq (tgt := 650) hx hb dL_law_643 (by decide) (fun _ => ?_) (fun c => absurd hz c)
    refine lv_iconst (v := 0) hx hb dL_law_650 (by decide) ?_
    refine y_goi (y_runV (As := [.int (xs (x3 + 1).toNatClampNeg), .int (xs (x3 + 2).toNatClampNeg), .int 0]) (rest := []) hx hb hml hown hts hKc hS (kX8_comes l Gc Sc 0 (xs (x3 + 1).toNatClampNeg) (xs (x3 + 2).toNatClampNeg) 0 r Sc' rfl e1) qw895 okX8_comes ⟨Nat.le_of_ble_eq_true rfl, Nat.le_of_ble_eq_true rfl⟩ rfl (by decide) rfl hPc rfl hl.1 rfl (Nat.le_of_ble_eq_true rfl) dL_law_651 ⟨Nat.le_of_ble_eq_true rfl, Nat.le_of_ble_eq_true rfl⟩) hS hKc.2.2.2 hPm hdis (fun H locs hPc hPm hS => ?_)
    refine lv_aload_n hx hb dL_law_654 rfl (lv_at hl 2 rfl) ?_
    refine lv_aload_n hx hb dL_law_655 rfl (lv_at hl 0 rfl) ?_
    refine lv_iload_n hx hb dL_law_656 rfl (lv_at hl 3 rfl) ?_
    refine lv_iconst (v := 1) hx hb dL_law_657 (by decide) ?_
    refine lv_iadd hx hb dL_law_658 ?_
    refine va_sld hx hb hX hbl hbA hS (y_in 1 ex3 hi hL (by decide)) dL_law_659 ?_
    refine lv_aload_n hx hb dL_law_660 rfl (lv_at hl 0 rfl) ?_
    refine lv_iload_n hx hb dL_law_661 rfl (lv_at hl 3 rfl) ?_
    refine lv_iconst (v := 2) hx hb dL_law_662 (by decide) ?_
    refine lv_iadd hx hb dL_law_663 ?_
    refine va_sld hx hb hX hbl hbA hS (y_in 2 ex3 hi hL (by decide)) dL_law_664 ?_
    refine lv_aload_n hx hb dL_law_665 rfl (lv_at hl 0 rfl) ?_
    refine lv_iload_n hx hb dL_law_666 rfl (lv_at hl 3 rfl) ?_
    refine lv_iconst (v := 3) hx hb dL_law_667 (by decide) ?_
    refine lv_iadd hx hb dL_law_668 ?_
    refine va_sld hx hb hX hbl hbA hS (y_in 3 ex3 hi hL (by decide)) dL_law_669 ?_
    refine lv_if_eq (tgt := 677) hx hb dL_law_670 (by decide) (fun _ => ?_) (fun c => absurd hz c)
    refine lv_iconst (v := 0) hx hb dL_law_677 (by decide) ?_
    refine y_goi (y_runV (As := [.int (xs (x3 + 1).toNatClampNeg), .int (xs (x3 + 2).toNatClampNeg), .int 0]) (rest := [.int r]) hx hb hml hown hts hKm hS (kX9_comes l Gm Sm 0 (xs (x3 + 1).toNatClampNeg) (xs (x3 + 2).toNatClampNeg) 0 r Sm' rfl e2) qw896 okX9_comes ⟨Nat.le_of_ble_eq_true rfl, Nat.le_of_ble_eq_true rfl⟩ rfl (by decide) rfl hPm rfl hl.1 rfl (Nat.le_of_ble_eq_true rfl) dL_law_678 ⟨Nat.le_of_ble_eq_true rfl, Nat.le_of_ble_eq_true rfl⟩) hS hKm.2.2.2 hPc (fun q h1 h2 => hdis q h2 h1) (fun H locs hPm hPc hS => ?_)
    refine lv_icmp_eq (tgt := 974) hx hb dL_law_681 (by decide) (fun _ => ?_) (fun c => absurd rfl c)
    exact next Sc' Sm' H locs ls hrel' hPc hPm hS hl
  · obtain ⟨r, Sc', Sm', e1, e2, hrel'⟩ := hs Sc Sm (xs (x3 + 1).toNatClampNeg) (xs (x3 + 2).toNatClampNeg) 1 hrel (Or.inr rfl)
    refine lv_aload_n hx hb dL_law_627 rfl (lv_at hl 1 rfl) ?_
    refine lv_aload_n hx hb dL_law_628 rfl (lv_at hl 0 rfl) ?_
    refine lv_iload_n hx hb dL_law_629 rfl (lv_at hl 3 rfl) ?_
    refine lv_iconst (v := 1) hx hb dL_law_630 (by decide) ?_
    refine lv_iadd hx hb dL_law_631 ?_
    refine va_sld hx hb hX hbl hbA hS (y_in 1 ex3 hi hL (by decide)) dL_law_632 ?_
    refine lv_aload_n hx hb dL_law_633 rfl (lv_at hl 0 rfl) ?_
    refine lv_iload_n hx hb dL_law_634 rfl (lv_at hl 3 rfl) ?_
    refine lv_iconst (v := 2) hx hb dL_law_635 (by decide) ?_
    refine lv_iadd hx hb dL_law_636 ?_
    refine va_sld hx hb hX hbl hbA hS (y_in 2 ex3 hi hL (by decide)) dL_law_637 ?_
    refine lv_aload_n hx hb dL_law_638 rfl (lv_at hl 0 rfl) ?_
    refine lv_iload_n hx hb dL_law_639 rfl (lv_at hl 3 rfl) ?_
    refine lv_iconst (v := 3) hx hb dL_law_640 (by decide) ?_
    refine lv_iadd hx hb dL_law_641 ?_
    refine va_sld hx hb hX hbl hbA hS (y_in 3 ex3 hi hL (by decide)) dL_law_642 ?_
    refine lv_if_eq (tgt := 650) hx hb dL_law_643 (by decide) (fun c => absurd c hz) (fun _ => ?_)
    refine lv_iconst (v := 1) hx hb dL_law_646 (by decide) ?_
    refine lv_goto (tgt := 651) hx hb dL_law_647 (by decide) ?_
    refine y_goi (y_runV (As := [.int (xs (x3 + 1).toNatClampNeg), .int (xs (x3 + 2).toNatClampNeg), .int 1]) (rest := []) hx hb hml hown hts hKc hS (kX8_comes l Gc Sc 0 (xs (x3 + 1).toNatClampNeg) (xs (x3 + 2).toNatClampNeg) 1 r Sc' rfl e1) qw895 okX8_comes ⟨Nat.le_of_ble_eq_true rfl, Nat.le_of_ble_eq_true rfl⟩ rfl (by decide) rfl hPc rfl hl.1 rfl (Nat.le_of_ble_eq_true rfl) dL_law_651 ⟨Nat.le_of_ble_eq_true rfl, Nat.le_of_ble_eq_true rfl⟩) hS hKc.2.2.2 hPm hdis (fun H locs hPc hPm hS => ?_)
    refine lv_aload_n hx hb dL_law_654 rfl (lv_at hl 2 rfl) ?_
    refine lv_aload_n hx hb dL_law_655 rfl (lv_at hl 0 rfl) ?_
    refine lv_iload_n hx hb dL_law_656 rfl (lv_at hl 3 rfl) ?_
    refine lv_iconst (v := 1) hx hb dL_law_657 (by decide) ?_
    refine lv_iadd hx hb dL_law_658 ?_
    refine va_sld hx hb hX hbl hbA hS (y_in 1 ex3 hi hL (by decide)) dL_law_659 ?_
    refine lv_aload_n hx hb dL_law_660 rfl (lv_at hl 0 rfl) ?_
    refine lv_iload_n hx hb dL_law_661 rfl (lv_at hl 3 rfl) ?_
    refine lv_iconst (v := 2) hx hb dL_law_662 (by decide) ?_
    refine lv_iadd hx hb dL_law_663 ?_
    refine va_sld hx hb hX hbl hbA hS (y_in 2 ex3 hi hL (by decide)) dL_law_664 ?_
    refine lv_aload_n hx hb dL_law_665 rfl (lv_at hl 0 rfl) ?_
    refine lv_iload_n hx hb dL_law_666 rfl (lv_at hl 3 rfl) ?_
    refine lv_iconst (v := 3) hx hb dL_law_667 (by decide) ?_
    refine lv_iadd hx hb dL_law_668 ?_
    refine va_sld hx hb hX hbl hbA hS (y_in 3 ex3 hi hL (by decide)) dL_law_669 ?_
    refine lv_if_eq (tgt := 677) hx hb dL_law_670 (by decide) (fun c => absurd c hz) (fun _ => ?_)
    refine lv_iconst (v := 1) hx hb dL_law_673 (by decide) ?_
    refine lv_goto (tgt := 678) hx hb dL_law_674 (by decide) ?_
    refine y_goi (y_runV (As := [.int (xs (x3 + 1).toNatClampNeg), .int (xs (x3 + 2).toNatClampNeg), .int 1]) (rest := [.int r]) hx hb hml hown hts hKm hS (kX9_comes l Gm Sm 0 (xs (x3 + 1).toNatClampNeg) (xs (x3 + 2).toNatClampNeg) 1 r Sm' rfl e2) qw896 okX9_comes ⟨Nat.le_of_ble_eq_true rfl, Nat.le_of_ble_eq_true rfl⟩ rfl (by decide) rfl hPm rfl hl.1 rfl (Nat.le_of_ble_eq_true rfl) dL_law_678 ⟨Nat.le_of_ble_eq_true rfl, Nat.le_of_ble_eq_true rfl⟩) hS hKm.2.2.2 hPc (fun q h1 h2 => hdis q h2 h1) (fun H locs hPm hPc hS => ?_)
    refine lv_icmp_eq (tgt := 974) hx hb dL_law_681 (by decide) (fun _ => ?_) (fun c => absurd rfl c)
    exact next Sc' Sm' H locs ls hrel' hPc hPm hS hl
set_option maxHeartbeats 4000000 in
set_option maxRecDepth 100000 in
theorem law_odds {p : Program} {l : Launch} {e : Env} {s : State} {m : MethodId} {below : List Frame} {meth : Method} {c : Code} {b L : Nat} {xs : Nat → Int32} {Gc Gm : xG} (Z : yZ p s m meth c b L xs Gc Gm) {Rel : xS → xS → Prop} (hs : sim_odds Rel) {i : Nat} (hi : i + 6 ≤ L) (hL : L ≤ 3072) {x3 : Int32} (ex3 : x3 = nI i) {Sc Sm : xS} (hrel : Rel Sc Sm) {H : Heap} {locs : List Loc} {ls : Array Slot} (hPc : xP Gc Yc Sc H) (hPm : xP Gm Ym Sm H) (hS : va_S (yA s) s.heap H locs) (hl : lv_has ls 4 [(0, .ref b), (1, .ref (xad Gc 0)), (2, .ref (xad Gm 0)), (3, .int x3)]) (next : ∀ (Sc Sm : xS) (H : Heap) (locs : List Loc) (ls : Array Slot), Rel Sc Sm → xP Gc Yc Sc H → xP Gm Ym Sm H → va_S (yA s) s.heap H locs → lv_has ls 4 [(0, .ref b), (1, .ref (xad Gc 0)), (2, .ref (xad Gm 0)), (3, .int x3)] → W p l e room_1 s m #[Value.ref b] below meth c H locs 62 12897 (lw_Z below #[Value.ref b] s) (F0 m 974 ls [])) : W p l e room_1 s m #[Value.ref b] below meth c H locs 62 12897 (lw_Z below #[Value.ref b] s) (F0 m 686 ls []) := by
  obtain ⟨hx, hb, hml, hown, hts, hr, hlk, hKc, hKm, hdis, hX, hbl⟩ := id Z
  have hbA : ¬ yA s b := Nat.not_le.mpr hbl
  obtain ⟨r, Sc', Sm', e1, e2, hrel'⟩ := hs Sc Sm (xs (x3 + 1).toNatClampNeg) (xs (x3 + 2).toNatClampNeg) (xs (x3 + 3).toNatClampNeg) (xs (x3 + 4).toNatClampNeg) hrel
  refine lv_aload_n hx hb dL_law_686 rfl (lv_at hl 1 rfl) ?_
  refine lv_aload_n hx hb dL_law_687 rfl (lv_at hl 0 rfl) ?_
  refine lv_iload_n hx hb dL_law_688 rfl (lv_at hl 3 rfl) ?_
  refine lv_iconst (v := 1) hx hb dL_law_689 (by decide) ?_
  refine lv_iadd hx hb dL_law_690 ?_
  refine va_sld hx hb hX hbl hbA hS (y_in 1 ex3 hi hL (by decide)) dL_law_691 ?_
  refine lv_aload_n hx hb dL_law_692 rfl (lv_at hl 0 rfl) ?_
  refine lv_iload_n hx hb dL_law_693 rfl (lv_at hl 3 rfl) ?_
  refine lv_iconst (v := 2) hx hb dL_law_694 (by decide) ?_
  refine lv_iadd hx hb dL_law_695 ?_
  refine va_sld hx hb hX hbl hbA hS (y_in 2 ex3 hi hL (by decide)) dL_law_696 ?_
  refine lv_aload_n hx hb dL_law_697 rfl (lv_at hl 0 rfl) ?_
  refine lv_iload_n hx hb dL_law_698 rfl (lv_at hl 3 rfl) ?_
  refine lv_iconst (v := 3) hx hb dL_law_699 (by decide) ?_
  refine lv_iadd hx hb dL_law_700 ?_
  refine va_sld hx hb hX hbl hbA hS (y_in 3 ex3 hi hL (by decide)) dL_law_701 ?_
  refine lv_aload_n hx hb dL_law_702 rfl (lv_at hl 0 rfl) ?_
  refine lv_iload_n hx hb dL_law_703 rfl (lv_at hl 3 rfl) ?_
  refine lv_iconst (v := 4) hx hb dL_law_704 (by decide) ?_
  refine lv_iadd hx hb dL_law_705 ?_
  refine va_sld hx hb hX hbl hbA hS (y_in 4 ex3 hi hL (by decide)) dL_law_706 ?_
  refine y_gol (y_runV (As := [.int (xs (x3 + 1).toNatClampNeg), .int (xs (x3 + 2).toNatClampNeg), .int (xs (x3 + 3).toNatClampNeg), .int (xs (x3 + 4).toNatClampNeg)]) (rest := []) hx hb hml hown hts hKc hS (kX8_odds l Gc Sc 0 (xs (x3 + 1).toNatClampNeg) (xs (x3 + 2).toNatClampNeg) (xs (x3 + 3).toNatClampNeg) (xs (x3 + 4).toNatClampNeg) r Sc' rfl e1) qw897 okX8_odds ⟨Nat.le_of_ble_eq_true rfl, Nat.le_of_ble_eq_true rfl⟩ rfl (by decide) rfl hPc rfl hl.1 rfl (Nat.le_of_ble_eq_true rfl) dL_law_707 ⟨Nat.le_of_ble_eq_true rfl, Nat.le_of_ble_eq_true rfl⟩) hS hKc.2.2.2 hPm hdis (fun H locs hPc hPm hS => ?_)
  refine lv_aload_n hx hb dL_law_710 rfl (lv_at hl 2 rfl) ?_
  refine lv_aload_n hx hb dL_law_711 rfl (lv_at hl 0 rfl) ?_
  refine lv_iload_n hx hb dL_law_712 rfl (lv_at hl 3 rfl) ?_
  refine lv_iconst (v := 1) hx hb dL_law_713 (by decide) ?_
  refine lv_iadd hx hb dL_law_714 ?_
  refine va_sld hx hb hX hbl hbA hS (y_in 1 ex3 hi hL (by decide)) dL_law_715 ?_
  refine lv_aload_n hx hb dL_law_716 rfl (lv_at hl 0 rfl) ?_
  refine lv_iload_n hx hb dL_law_717 rfl (lv_at hl 3 rfl) ?_
  refine lv_iconst (v := 2) hx hb dL_law_718 (by decide) ?_
  refine lv_iadd hx hb dL_law_719 ?_
  refine va_sld hx hb hX hbl hbA hS (y_in 2 ex3 hi hL (by decide)) dL_law_720 ?_
  refine lv_aload_n hx hb dL_law_721 rfl (lv_at hl 0 rfl) ?_
  refine lv_iload_n hx hb dL_law_722 rfl (lv_at hl 3 rfl) ?_
  refine lv_iconst (v := 3) hx hb dL_law_723 (by decide) ?_
  refine lv_iadd hx hb dL_law_724 ?_
  refine va_sld hx hb hX hbl hbA hS (y_in 3 ex3 hi hL (by decide)) dL_law_725 ?_
  refine lv_aload_n hx hb dL_law_726 rfl (lv_at hl 0 rfl) ?_
  refine lv_iload_n hx hb dL_law_727 rfl (lv_at hl 3 rfl) ?_
  refine lv_iconst (v := 4) hx hb dL_law_728 (by decide) ?_
  refine lv_iadd hx hb dL_law_729 ?_
  refine va_sld hx hb hX hbl hbA hS (y_in 4 ex3 hi hL (by decide)) dL_law_730 ?_
  refine y_gol (y_runV (As := [.int (xs (x3 + 1).toNatClampNeg), .int (xs (x3 + 2).toNatClampNeg), .int (xs (x3 + 3).toNatClampNeg), .int (xs (x3 + 4).toNatClampNeg)]) (rest := [.long r]) hx hb hml hown hts hKm hS (kX9_odds l Gm Sm 0 (xs (x3 + 1).toNatClampNeg) (xs (x3 + 2).toNatClampNeg) (xs (x3 + 3).toNatClampNeg) (xs (x3 + 4).toNatClampNeg) r Sm' rfl e2) qw898 okX9_odds ⟨Nat.le_of_ble_eq_true rfl, Nat.le_of_ble_eq_true rfl⟩ rfl (by decide) rfl hPm rfl hl.1 rfl (Nat.le_of_ble_eq_true rfl) dL_law_731 ⟨Nat.le_of_ble_eq_true rfl, Nat.le_of_ble_eq_true rfl⟩) hS hKm.2.2.2 hPc (fun q h1 h2 => hdis q h2 h1) (fun H locs hPm hPc hS => ?_)
  refine W.lcmp hx hb dL_law_734 ?_
  refine lv_if_eq (tgt := 974) hx hb dL_law_735 (by decide) (fun _ => ?_) (fun c => absurd (lg_self r) c)
  exact next Sc' Sm' H locs ls hrel' hPc hPm hS hl
set_option maxHeartbeats 4000000 in
set_option maxRecDepth 100000 in
theorem law_apart {p : Program} {l : Launch} {e : Env} {s : State} {m : MethodId} {below : List Frame} {meth : Method} {c : Code} {b L : Nat} {xs : Nat → Int32} {Gc Gm : xG} (Z : yZ p s m meth c b L xs Gc Gm) {Rel : xS → xS → Prop} (hs : sim_apart Rel) {i : Nat} (hi : i + 6 ≤ L) (hL : L ≤ 3072) {x3 : Int32} (ex3 : x3 = nI i) {Sc Sm : xS} (hrel : Rel Sc Sm) {H : Heap} {locs : List Loc} {ls : Array Slot} (hPc : xP Gc Yc Sc H) (hPm : xP Gm Ym Sm H) (hS : va_S (yA s) s.heap H locs) (hl : lv_has ls 4 [(0, .ref b), (1, .ref (xad Gc 0)), (2, .ref (xad Gm 0)), (3, .int x3)]) (next : ∀ (Sc Sm : xS) (H : Heap) (locs : List Loc) (ls : Array Slot), Rel Sc Sm → xP Gc Yc Sc H → xP Gm Ym Sm H → va_S (yA s) s.heap H locs → lv_has ls 4 [(0, .ref b), (1, .ref (xad Gc 0)), (2, .ref (xad Gm 0)), (3, .int x3)] → W p l e room_1 s m #[Value.ref b] below meth c H locs 62 12897 (lw_Z below #[Value.ref b] s) (F0 m 974 ls [])) : W p l e room_1 s m #[Value.ref b] below meth c H locs 62 12897 (lw_Z below #[Value.ref b] s) (F0 m 740 ls []) := by
  obtain ⟨hx, hb, hml, hown, hts, hr, hlk, hKc, hKm, hdis, hX, hbl⟩ := id Z
  have hbA : ¬ yA s b := Nat.not_le.mpr hbl
  obtain ⟨r, Sc', Sm', e1, e2, hrel'⟩ := hs Sc Sm (xs (x3 + 1).toNatClampNeg) hrel
  refine lv_aload_n hx hb dL_law_740 rfl (lv_at hl 1 rfl) ?_
  refine lv_aload_n hx hb dL_law_741 rfl (lv_at hl 0 rfl) ?_
  refine lv_iload_n hx hb dL_law_742 rfl (lv_at hl 3 rfl) ?_
  refine lv_iconst (v := 1) hx hb dL_law_743 (by decide) ?_
  refine lv_iadd hx hb dL_law_744 ?_
  refine va_sld hx hb hX hbl hbA hS (y_in 1 ex3 hi hL (by decide)) dL_law_745 ?_
  refine y_goi (y_runV (As := [.int (xs (x3 + 1).toNatClampNeg)]) (rest := []) hx hb hml hown hts hKc hS (kX8_apart l Gc Sc 0 (xs (x3 + 1).toNatClampNeg) r Sc' rfl e1) qw899 okX8_apart ⟨Nat.le_of_ble_eq_true rfl, Nat.le_of_ble_eq_true rfl⟩ rfl (by decide) rfl hPc rfl hl.1 rfl (Nat.le_of_ble_eq_true rfl) dL_law_746 ⟨Nat.le_of_ble_eq_true rfl, Nat.le_of_ble_eq_true rfl⟩) hS hKc.2.2.2 hPm hdis (fun H locs hPc hPm hS => ?_)
  refine lv_aload_n hx hb dL_law_749 rfl (lv_at hl 2 rfl) ?_
  refine lv_aload_n hx hb dL_law_750 rfl (lv_at hl 0 rfl) ?_
  refine lv_iload_n hx hb dL_law_751 rfl (lv_at hl 3 rfl) ?_
  refine lv_iconst (v := 1) hx hb dL_law_752 (by decide) ?_
  refine lv_iadd hx hb dL_law_753 ?_
  refine va_sld hx hb hX hbl hbA hS (y_in 1 ex3 hi hL (by decide)) dL_law_754 ?_
  refine y_goi (y_runV (As := [.int (xs (x3 + 1).toNatClampNeg)]) (rest := [.int r]) hx hb hml hown hts hKm hS (kX9_apart l Gm Sm 0 (xs (x3 + 1).toNatClampNeg) r Sm' rfl e2) qw900 okX9_apart ⟨Nat.le_of_ble_eq_true rfl, Nat.le_of_ble_eq_true rfl⟩ rfl (by decide) rfl hPm rfl hl.1 rfl (Nat.le_of_ble_eq_true rfl) dL_law_755 ⟨Nat.le_of_ble_eq_true rfl, Nat.le_of_ble_eq_true rfl⟩) hS hKm.2.2.2 hPc (fun q h1 h2 => hdis q h2 h1) (fun H locs hPm hPc hS => ?_)
  refine lv_icmp_eq (tgt := 974) hx hb dL_law_758 (by decide) (fun _ => ?_) (fun c => absurd rfl c)
  exact next Sc' Sm' H locs ls hrel' hPc hPm hS hl
set_option maxHeartbeats 4000000 in
set_option maxRecDepth 100000 in
theorem law_flour {p : Program} {l : Launch} {e : Env} {s : State} {m : MethodId} {below : List Frame} {meth : Method} {c : Code} {b L : Nat} {xs : Nat → Int32} {Gc Gm : xG} (Z : yZ p s m meth c b L xs Gc Gm) {Rel : xS → xS → Prop} (hs : sim_flour Rel) {i : Nat} (hi : i + 6 ≤ L) (hL : L ≤ 3072) {x3 : Int32} (ex3 : x3 = nI i) {Sc Sm : xS} (hrel : Rel Sc Sm) {H : Heap} {locs : List Loc} {ls : Array Slot} (hPc : xP Gc Yc Sc H) (hPm : xP Gm Ym Sm H) (hS : va_S (yA s) s.heap H locs) (hl : lv_has ls 4 [(0, .ref b), (1, .ref (xad Gc 0)), (2, .ref (xad Gm 0)), (3, .int x3)]) (next : ∀ (Sc Sm : xS) (H : Heap) (locs : List Loc) (ls : Array Slot), Rel Sc Sm → xP Gc Yc Sc H → xP Gm Ym Sm H → va_S (yA s) s.heap H locs → lv_has ls 4 [(0, .ref b), (1, .ref (xad Gc 0)), (2, .ref (xad Gm 0)), (3, .int x3)] → W p l e room_1 s m #[Value.ref b] below meth c H locs 62 12897 (lw_Z below #[Value.ref b] s) (F0 m 974 ls [])) : W p l e room_1 s m #[Value.ref b] below meth c H locs 62 12897 (lw_Z below #[Value.ref b] s) (F0 m 763 ls []) := by
  obtain ⟨hx, hb, hml, hown, hts, hr, hlk, hKc, hKm, hdis, hX, hbl⟩ := id Z
  have hbA : ¬ yA s b := Nat.not_le.mpr hbl
  obtain ⟨r, Sc', Sm', e1, e2, hrel'⟩ := hs Sc Sm (xs (x3 + 1).toNatClampNeg) (xs (x3 + 2).toNatClampNeg) (xs (x3 + 3).toNatClampNeg) hrel
  refine lv_aload_n hx hb dL_law_763 rfl (lv_at hl 1 rfl) ?_
  refine lv_aload_n hx hb dL_law_764 rfl (lv_at hl 0 rfl) ?_
  refine lv_iload_n hx hb dL_law_765 rfl (lv_at hl 3 rfl) ?_
  refine lv_iconst (v := 1) hx hb dL_law_766 (by decide) ?_
  refine lv_iadd hx hb dL_law_767 ?_
  refine va_sld hx hb hX hbl hbA hS (y_in 1 ex3 hi hL (by decide)) dL_law_768 ?_
  refine lv_aload_n hx hb dL_law_769 rfl (lv_at hl 0 rfl) ?_
  refine lv_iload_n hx hb dL_law_770 rfl (lv_at hl 3 rfl) ?_
  refine lv_iconst (v := 2) hx hb dL_law_771 (by decide) ?_
  refine lv_iadd hx hb dL_law_772 ?_
  refine va_sld hx hb hX hbl hbA hS (y_in 2 ex3 hi hL (by decide)) dL_law_773 ?_
  refine lv_aload_n hx hb dL_law_774 rfl (lv_at hl 0 rfl) ?_
  refine lv_iload_n hx hb dL_law_775 rfl (lv_at hl 3 rfl) ?_
  refine lv_iconst (v := 3) hx hb dL_law_776 (by decide) ?_
  refine lv_iadd hx hb dL_law_777 ?_
  refine va_sld hx hb hX hbl hbA hS (y_in 3 ex3 hi hL (by decide)) dL_law_778 ?_
  refine y_goi (y_runV (As := [.int (xs (x3 + 1).toNatClampNeg), .int (xs (x3 + 2).toNatClampNeg), .int (xs (x3 + 3).toNatClampNeg)]) (rest := []) hx hb hml hown hts hKc hS (kX8_flour l Gc Sc 0 (xs (x3 + 1).toNatClampNeg) (xs (x3 + 2).toNatClampNeg) (xs (x3 + 3).toNatClampNeg) r Sc' rfl e1) qw901 okX8_flour ⟨Nat.le_of_ble_eq_true rfl, Nat.le_of_ble_eq_true rfl⟩ rfl (by decide) rfl hPc rfl hl.1 rfl (Nat.le_of_ble_eq_true rfl) dL_law_779 ⟨Nat.le_of_ble_eq_true rfl, Nat.le_of_ble_eq_true rfl⟩) hS hKc.2.2.2 hPm hdis (fun H locs hPc hPm hS => ?_)
  refine lv_aload_n hx hb dL_law_782 rfl (lv_at hl 2 rfl) ?_
  refine lv_aload_n hx hb dL_law_783 rfl (lv_at hl 0 rfl) ?_
  refine lv_iload_n hx hb dL_law_784 rfl (lv_at hl 3 rfl) ?_
  refine lv_iconst (v := 1) hx hb dL_law_785 (by decide) ?_
  refine lv_iadd hx hb dL_law_786 ?_
  refine va_sld hx hb hX hbl hbA hS (y_in 1 ex3 hi hL (by decide)) dL_law_787 ?_
  refine lv_aload_n hx hb dL_law_788 rfl (lv_at hl 0 rfl) ?_
  refine lv_iload_n hx hb dL_law_789 rfl (lv_at hl 3 rfl) ?_
  refine lv_iconst (v := 2) hx hb dL_law_790 (by decide) ?_
  refine lv_iadd hx hb dL_law_791 ?_
  refine va_sld hx hb hX hbl hbA hS (y_in 2 ex3 hi hL (by decide)) dL_law_792 ?_
  refine lv_aload_n hx hb dL_law_793 rfl (lv_at hl 0 rfl) ?_
  refine lv_iload_n hx hb dL_law_794 rfl (lv_at hl 3 rfl) ?_
  refine lv_iconst (v := 3) hx hb dL_law_795 (by decide) ?_
  refine lv_iadd hx hb dL_law_796 ?_
  refine va_sld hx hb hX hbl hbA hS (y_in 3 ex3 hi hL (by decide)) dL_law_797 ?_
  refine y_goi (y_runV (As := [.int (xs (x3 + 1).toNatClampNeg), .int (xs (x3 + 2).toNatClampNeg), .int (xs (x3 + 3).toNatClampNeg)]) (rest := [.int r]) hx hb hml hown hts hKm hS (kX9_flour l Gm Sm 0 (xs (x3 + 1).toNatClampNeg) (xs (x3 + 2).toNatClampNeg) (xs (x3 + 3).toNatClampNeg) r Sm' rfl e2) qw902 okX9_flour ⟨Nat.le_of_ble_eq_true rfl, Nat.le_of_ble_eq_true rfl⟩ rfl (by decide) rfl hPm rfl hl.1 rfl (Nat.le_of_ble_eq_true rfl) dL_law_798 ⟨Nat.le_of_ble_eq_true rfl, Nat.le_of_ble_eq_true rfl⟩) hS hKm.2.2.2 hPc (fun q h1 h2 => hdis q h2 h1) (fun H locs hPm hPc hS => ?_)
  refine lv_icmp_eq (tgt := 974) hx hb dL_law_801 (by decide) (fun _ => ?_) (fun c => absurd rfl c)
  exact next Sc' Sm' H locs ls hrel' hPc hPm hS hl
set_option maxHeartbeats 4000000 in
set_option maxRecDepth 100000 in
theorem law_saint {p : Program} {l : Launch} {e : Env} {s : State} {m : MethodId} {below : List Frame} {meth : Method} {c : Code} {b L : Nat} {xs : Nat → Int32} {Gc Gm : xG} (Z : yZ p s m meth c b L xs Gc Gm) {Rel : xS → xS → Prop} (hs : sim_saint Rel) {i : Nat} (hi : i + 6 ≤ L) (hL : L ≤ 3072) {x3 : Int32} (ex3 : x3 = nI i) {Sc Sm : xS} (hrel : Rel Sc Sm) {H : Heap} {locs : List Loc} {ls : Array Slot} (hPc : xP Gc Yc Sc H) (hPm : xP Gm Ym Sm H) (hS : va_S (yA s) s.heap H locs) (hl : lv_has ls 4 [(0, .ref b), (1, .ref (xad Gc 0)), (2, .ref (xad Gm 0)), (3, .int x3)]) (next : ∀ (Sc Sm : xS) (H : Heap) (locs : List Loc) (ls : Array Slot), Rel Sc Sm → xP Gc Yc Sc H → xP Gm Ym Sm H → va_S (yA s) s.heap H locs → lv_has ls 4 [(0, .ref b), (1, .ref (xad Gc 0)), (2, .ref (xad Gm 0)), (3, .int x3)] → W p l e room_1 s m #[Value.ref b] below meth c H locs 62 12897 (lw_Z below #[Value.ref b] s) (F0 m 974 ls [])) : W p l e room_1 s m #[Value.ref b] below meth c H locs 62 12897 (lw_Z below #[Value.ref b] s) (F0 m 806 ls []) := by
  obtain ⟨hx, hb, hml, hown, hts, hr, hlk, hKc, hKm, hdis, hX, hbl⟩ := id Z
  have hbA : ¬ yA s b := Nat.not_le.mpr hbl
  obtain ⟨r, Sc', Sm', e1, e2, hrel'⟩ := hs Sc Sm (xs (x3 + 1).toNatClampNeg) (xs (x3 + 2).toNatClampNeg) (xs (x3 + 3).toNatClampNeg) (xs (x3 + 4).toNatClampNeg) hrel
  refine lv_aload_n hx hb dL_law_806 rfl (lv_at hl 1 rfl) ?_
  refine lv_aload_n hx hb dL_law_807 rfl (lv_at hl 0 rfl) ?_
  refine lv_iload_n hx hb dL_law_808 rfl (lv_at hl 3 rfl) ?_
  refine lv_iconst (v := 1) hx hb dL_law_809 (by decide) ?_
  refine lv_iadd hx hb dL_law_810 ?_
  refine va_sld hx hb hX hbl hbA hS (y_in 1 ex3 hi hL (by decide)) dL_law_811 ?_
  refine lv_aload_n hx hb dL_law_812 rfl (lv_at hl 0 rfl) ?_
  refine lv_iload_n hx hb dL_law_813 rfl (lv_at hl 3 rfl) ?_
  refine lv_iconst (v := 2) hx hb dL_law_814 (by decide) ?_
  refine lv_iadd hx hb dL_law_815 ?_
  refine va_sld hx hb hX hbl hbA hS (y_in 2 ex3 hi hL (by decide)) dL_law_816 ?_
  refine lv_aload_n hx hb dL_law_817 rfl (lv_at hl 0 rfl) ?_
  refine lv_iload_n hx hb dL_law_818 rfl (lv_at hl 3 rfl) ?_
  refine lv_iconst (v := 3) hx hb dL_law_819 (by decide) ?_
  refine lv_iadd hx hb dL_law_820 ?_
  refine va_sld hx hb hX hbl hbA hS (y_in 3 ex3 hi hL (by decide)) dL_law_821 ?_
  refine lv_aload_n hx hb dL_law_822 rfl (lv_at hl 0 rfl) ?_
  refine lv_iload_n hx hb dL_law_823 rfl (lv_at hl 3 rfl) ?_
  refine lv_iconst (v := 4) hx hb dL_law_824 (by decide) ?_
  refine lv_iadd hx hb dL_law_825 ?_
  refine va_sld hx hb hX hbl hbA hS (y_in 4 ex3 hi hL (by decide)) dL_law_826 ?_
  refine y_goi (y_runV (As := [.int (xs (x3 + 1).toNatClampNeg), .int (xs (x3 + 2).toNatClampNeg), .int (xs (x3 + 3).toNatClampNeg), .int (xs (x3 + 4).toNatClampNeg)]) (rest := []) hx hb hml hown hts hKc hS (kX8_saint l Gc Sc 0 (xs (x3 + 1).toNatClampNeg) (xs (x3 + 2).toNatClampNeg) (xs (x3 + 3).toNatClampNeg) (xs (x3 + 4).toNatClampNeg) r Sc' rfl e1) qw903 okX8_saint ⟨Nat.le_of_ble_eq_true rfl, Nat.le_of_ble_eq_true rfl⟩ rfl (by decide) rfl hPc rfl hl.1 rfl (Nat.le_of_ble_eq_true rfl) dL_law_827 ⟨Nat.le_of_ble_eq_true rfl, Nat.le_of_ble_eq_true rfl⟩) hS hKc.2.2.2 hPm hdis (fun H locs hPc hPm hS => ?_)
  refine lv_aload_n hx hb dL_law_830 rfl (lv_at hl 2 rfl) ?_
  refine lv_aload_n hx hb dL_law_831 rfl (lv_at hl 0 rfl) ?_
  refine lv_iload_n hx hb dL_law_832 rfl (lv_at hl 3 rfl) ?_
  refine lv_iconst (v := 1) hx hb dL_law_833 (by decide) ?_
  refine lv_iadd hx hb dL_law_834 ?_
  refine va_sld hx hb hX hbl hbA hS (y_in 1 ex3 hi hL (by decide)) dL_law_835 ?_
  refine lv_aload_n hx hb dL_law_836 rfl (lv_at hl 0 rfl) ?_
  refine lv_iload_n hx hb dL_law_837 rfl (lv_at hl 3 rfl) ?_
  refine lv_iconst (v := 2) hx hb dL_law_838 (by decide) ?_
  refine lv_iadd hx hb dL_law_839 ?_
  refine va_sld hx hb hX hbl hbA hS (y_in 2 ex3 hi hL (by decide)) dL_law_840 ?_
  refine lv_aload_n hx hb dL_law_841 rfl (lv_at hl 0 rfl) ?_
  refine lv_iload_n hx hb dL_law_842 rfl (lv_at hl 3 rfl) ?_
  refine lv_iconst (v := 3) hx hb dL_law_843 (by decide) ?_
  refine lv_iadd hx hb dL_law_844 ?_
  refine va_sld hx hb hX hbl hbA hS (y_in 3 ex3 hi hL (by decide)) dL_law_845 ?_
  refine lv_aload_n hx hb dL_law_846 rfl (lv_at hl 0 rfl) ?_
  refine lv_iload_n hx hb dL_law_847 rfl (lv_at hl 3 rfl) ?_
  refine lv_iconst (v := 4) hx hb dL_law_848 (by decide) ?_
  refine lv_iadd hx hb dL_law_849 ?_
  refine va_sld hx hb hX hbl hbA hS (y_in 4 ex3 hi hL (by decide)) dL_law_850 ?_
  refine y_goi (y_runV (As := [.int (xs (x3 + 1).toNatClampNeg), .int (xs (x3 + 2).toNatClampNeg), .int (xs (x3 + 3).toNatClampNeg), .int (xs (x3 + 4).toNatClampNeg)]) (rest := [.int r]) hx hb hml hown hts hKm hS (kX9_saint l Gm Sm 0 (xs (x3 + 1).toNatClampNeg) (xs (x3 + 2).toNatClampNeg) (xs (x3 + 3).toNatClampNeg) (xs (x3 + 4).toNatClampNeg) r Sm' rfl e2) qw904 okX9_saint ⟨Nat.le_of_ble_eq_true rfl, Nat.le_of_ble_eq_true rfl⟩ rfl (by decide) rfl hPm rfl hl.1 rfl (Nat.le_of_ble_eq_true rfl) dL_law_851 ⟨Nat.le_of_ble_eq_true rfl, Nat.le_of_ble_eq_true rfl⟩) hS hKm.2.2.2 hPc (fun q h1 h2 => hdis q h2 h1) (fun H locs hPm hPc hS => ?_)
  refine lv_icmp_eq (tgt := 974) hx hb dL_law_854 (by decide) (fun _ => ?_) (fun c => absurd rfl c)
  exact next Sc' Sm' H locs ls hrel' hPc hPm hS hl
set_option maxHeartbeats 4000000 in
set_option maxRecDepth 100000 in
theorem law_seen {p : Program} {l : Launch} {e : Env} {s : State} {m : MethodId} {below : List Frame} {meth : Method} {c : Code} {b L : Nat} {xs : Nat → Int32} {Gc Gm : xG} (Z : yZ p s m meth c b L xs Gc Gm) {Rel : xS → xS → Prop} (hs : sim_seen Rel) {i : Nat} (hi : i + 6 ≤ L) (hL : L ≤ 3072) {x3 : Int32} (ex3 : x3 = nI i) {Sc Sm : xS} (hrel : Rel Sc Sm) {H : Heap} {locs : List Loc} {ls : Array Slot} (hPc : xP Gc Yc Sc H) (hPm : xP Gm Ym Sm H) (hS : va_S (yA s) s.heap H locs) (hl : lv_has ls 4 [(0, .ref b), (1, .ref (xad Gc 0)), (2, .ref (xad Gm 0)), (3, .int x3)]) (next : ∀ (Sc Sm : xS) (H : Heap) (locs : List Loc) (ls : Array Slot), Rel Sc Sm → xP Gc Yc Sc H → xP Gm Ym Sm H → va_S (yA s) s.heap H locs → lv_has ls 4 [(0, .ref b), (1, .ref (xad Gc 0)), (2, .ref (xad Gm 0)), (3, .int x3)] → W p l e room_1 s m #[Value.ref b] below meth c H locs 62 12897 (lw_Z below #[Value.ref b] s) (F0 m 974 ls [])) : W p l e room_1 s m #[Value.ref b] below meth c H locs 62 12897 (lw_Z below #[Value.ref b] s) (F0 m 859 ls []) := by
  obtain ⟨hx, hb, hml, hown, hts, hr, hlk, hKc, hKm, hdis, hX, hbl⟩ := id Z
  have hbA : ¬ yA s b := Nat.not_le.mpr hbl
  obtain ⟨r, Sc', Sm', e1, e2, hrel'⟩ := hs Sc Sm (xs (x3 + 1).toNatClampNeg) hrel
  refine lv_aload_n hx hb dL_law_859 rfl (lv_at hl 1 rfl) ?_
  refine lv_aload_n hx hb dL_law_860 rfl (lv_at hl 0 rfl) ?_
  refine lv_iload_n hx hb dL_law_861 rfl (lv_at hl 3 rfl) ?_
  refine lv_iconst (v := 1) hx hb dL_law_862 (by decide) ?_
  refine lv_iadd hx hb dL_law_863 ?_
  refine va_sld hx hb hX hbl hbA hS (y_in 1 ex3 hi hL (by decide)) dL_law_864 ?_
  refine y_goi (y_runV (As := [.int (xs (x3 + 1).toNatClampNeg)]) (rest := []) hx hb hml hown hts hKc hS (kX8_seen l Gc Sc 0 (xs (x3 + 1).toNatClampNeg) r Sc' rfl e1) qw905 okX8_seen ⟨Nat.le_of_ble_eq_true rfl, Nat.le_of_ble_eq_true rfl⟩ rfl (by decide) rfl hPc rfl hl.1 rfl (Nat.le_of_ble_eq_true rfl) dL_law_865 ⟨Nat.le_of_ble_eq_true rfl, Nat.le_of_ble_eq_true rfl⟩) hS hKc.2.2.2 hPm hdis (fun H locs hPc hPm hS => ?_)
  refine lv_aload_n hx hb dL_law_868 rfl (lv_at hl 2 rfl) ?_
  refine lv_aload_n hx hb dL_law_869 rfl (lv_at hl 0 rfl) ?_
  refine lv_iload_n hx hb dL_law_870 rfl (lv_at hl 3 rfl) ?_
  refine lv_iconst (v := 1) hx hb dL_law_871 (by decide) ?_
  refine lv_iadd hx hb dL_law_872 ?_
  refine va_sld hx hb hX hbl hbA hS (y_in 1 ex3 hi hL (by decide)) dL_law_873 ?_
  refine y_goi (y_runV (As := [.int (xs (x3 + 1).toNatClampNeg)]) (rest := [.int r]) hx hb hml hown hts hKm hS (kX9_seen l Gm Sm 0 (xs (x3 + 1).toNatClampNeg) r Sm' rfl e2) qw906 okX9_seen ⟨Nat.le_of_ble_eq_true rfl, Nat.le_of_ble_eq_true rfl⟩ rfl (by decide) rfl hPm rfl hl.1 rfl (Nat.le_of_ble_eq_true rfl) dL_law_874 ⟨Nat.le_of_ble_eq_true rfl, Nat.le_of_ble_eq_true rfl⟩) hS hKm.2.2.2 hPc (fun q h1 h2 => hdis q h2 h1) (fun H locs hPm hPc hS => ?_)
  refine lv_icmp_eq (tgt := 974) hx hb dL_law_877 (by decide) (fun _ => ?_) (fun c => absurd rfl c)
  exact next Sc' Sm' H locs ls hrel' hPc hPm hS hl
set_option maxHeartbeats 4000000 in
set_option maxRecDepth 100000 in
theorem law_who {p : Program} {l : Launch} {e : Env} {s : State} {m : MethodId} {below : List Frame} {meth : Method} {c : Code} {b L : Nat} {xs : Nat → Int32} {Gc Gm : xG} (Z : yZ p s m meth c b L xs Gc Gm) {Rel : xS → xS → Prop} (hs : sim_who Rel) {i : Nat} (hi : i + 6 ≤ L) (hL : L ≤ 3072) {x3 : Int32} (ex3 : x3 = nI i) {Sc Sm : xS} (hrel : Rel Sc Sm) {H : Heap} {locs : List Loc} {ls : Array Slot} (hPc : xP Gc Yc Sc H) (hPm : xP Gm Ym Sm H) (hS : va_S (yA s) s.heap H locs) (hl : lv_has ls 4 [(0, .ref b), (1, .ref (xad Gc 0)), (2, .ref (xad Gm 0)), (3, .int x3)]) (next : ∀ (Sc Sm : xS) (H : Heap) (locs : List Loc) (ls : Array Slot), Rel Sc Sm → xP Gc Yc Sc H → xP Gm Ym Sm H → va_S (yA s) s.heap H locs → lv_has ls 4 [(0, .ref b), (1, .ref (xad Gc 0)), (2, .ref (xad Gm 0)), (3, .int x3)] → W p l e room_1 s m #[Value.ref b] below meth c H locs 62 12897 (lw_Z below #[Value.ref b] s) (F0 m 974 ls [])) : W p l e room_1 s m #[Value.ref b] below meth c H locs 62 12897 (lw_Z below #[Value.ref b] s) (F0 m 882 ls []) := by
  obtain ⟨hx, hb, hml, hown, hts, hr, hlk, hKc, hKm, hdis, hX, hbl⟩ := id Z
  have hbA : ¬ yA s b := Nat.not_le.mpr hbl
  obtain ⟨r, Sc', Sm', e1, e2, hrel'⟩ := hs Sc Sm (xs (x3 + 1).toNatClampNeg) (xs (x3 + 2).toNatClampNeg) (xs (x3 + 3).toNatClampNeg) hrel
  refine lv_aload_n hx hb dL_law_882 rfl (lv_at hl 1 rfl) ?_
  refine lv_aload_n hx hb dL_law_883 rfl (lv_at hl 0 rfl) ?_
  refine lv_iload_n hx hb dL_law_884 rfl (lv_at hl 3 rfl) ?_
  refine lv_iconst (v := 1) hx hb dL_law_885 (by decide) ?_
  refine lv_iadd hx hb dL_law_886 ?_
  refine va_sld hx hb hX hbl hbA hS (y_in 1 ex3 hi hL (by decide)) dL_law_887 ?_
  refine lv_aload_n hx hb dL_law_888 rfl (lv_at hl 0 rfl) ?_
  refine lv_iload_n hx hb dL_law_889 rfl (lv_at hl 3 rfl) ?_
  refine lv_iconst (v := 2) hx hb dL_law_890 (by decide) ?_
  refine lv_iadd hx hb dL_law_891 ?_
  refine va_sld hx hb hX hbl hbA hS (y_in 2 ex3 hi hL (by decide)) dL_law_892 ?_
  refine lv_aload_n hx hb dL_law_893 rfl (lv_at hl 0 rfl) ?_
  refine lv_iload_n hx hb dL_law_894 rfl (lv_at hl 3 rfl) ?_
  refine lv_iconst (v := 3) hx hb dL_law_895 (by decide) ?_
  refine lv_iadd hx hb dL_law_896 ?_
  refine va_sld hx hb hX hbl hbA hS (y_in 3 ex3 hi hL (by decide)) dL_law_897 ?_
  refine y_goi (y_runV (As := [.int (xs (x3 + 1).toNatClampNeg), .int (xs (x3 + 2).toNatClampNeg), .int (xs (x3 + 3).toNatClampNeg)]) (rest := []) hx hb hml hown hts hKc hS (kX8_who l Gc Sc 0 (xs (x3 + 1).toNatClampNeg) (xs (x3 + 2).toNatClampNeg) (xs (x3 + 3).toNatClampNeg) r Sc' rfl e1) qw907 okX8_who ⟨Nat.le_of_ble_eq_true rfl, Nat.le_of_ble_eq_true rfl⟩ rfl (by decide) rfl hPc rfl hl.1 rfl (Nat.le_of_ble_eq_true rfl) dL_law_898 ⟨Nat.le_of_ble_eq_true rfl, Nat.le_of_ble_eq_true rfl⟩) hS hKc.2.2.2 hPm hdis (fun H locs hPc hPm hS => ?_)
  refine lv_aload_n hx hb dL_law_901 rfl (lv_at hl 2 rfl) ?_
  refine lv_aload_n hx hb dL_law_902 rfl (lv_at hl 0 rfl) ?_
  refine lv_iload_n hx hb dL_law_903 rfl (lv_at hl 3 rfl) ?_
  refine lv_iconst (v := 1) hx hb dL_law_904 (by decide) ?_
  refine lv_iadd hx hb dL_law_905 ?_
  refine va_sld hx hb hX hbl hbA hS (y_in 1 ex3 hi hL (by decide)) dL_law_906 ?_
  refine lv_aload_n hx hb dL_law_907 rfl (lv_at hl 0 rfl) ?_
  refine lv_iload_n hx hb dL_law_908 rfl (lv_at hl 3 rfl) ?_
  refine lv_iconst (v := 2) hx hb dL_law_909 (by decide) ?_
  refine lv_iadd hx hb dL_law_910 ?_
  refine va_sld hx hb hX hbl hbA hS (y_in 2 ex3 hi hL (by decide)) dL_law_911 ?_
  refine lv_aload_n hx hb dL_law_912 rfl (lv_at hl 0 rfl) ?_
  refine lv_iload_n hx hb dL_law_913 rfl (lv_at hl 3 rfl) ?_
  refine lv_iconst (v := 3) hx hb dL_law_914 (by decide) ?_
  refine lv_iadd hx hb dL_law_915 ?_
  refine va_sld hx hb hX hbl hbA hS (y_in 3 ex3 hi hL (by decide)) dL_law_916 ?_
  refine y_goi (y_runV (As := [.int (xs (x3 + 1).toNatClampNeg), .int (xs (x3 + 2).toNatClampNeg), .int (xs (x3 + 3).toNatClampNeg)]) (rest := [.int r]) hx hb hml hown hts hKm hS (kX9_who l Gm Sm 0 (xs (x3 + 1).toNatClampNeg) (xs (x3 + 2).toNatClampNeg) (xs (x3 + 3).toNatClampNeg) r Sm' rfl e2) qw908 okX9_who ⟨Nat.le_of_ble_eq_true rfl, Nat.le_of_ble_eq_true rfl⟩ rfl (by decide) rfl hPm rfl hl.1 rfl (Nat.le_of_ble_eq_true rfl) dL_law_917 ⟨Nat.le_of_ble_eq_true rfl, Nat.le_of_ble_eq_true rfl⟩) hS hKm.2.2.2 hPc (fun q h1 h2 => hdis q h2 h1) (fun H locs hPm hPc hS => ?_)
  refine lv_icmp_eq (tgt := 974) hx hb dL_law_920 (by decide) (fun _ => ?_) (fun c => absurd rfl c)
  exact next Sc' Sm' H locs ls hrel' hPc hPm hS hl
set_option maxHeartbeats 4000000 in
set_option maxRecDepth 100000 in
theorem law_image {p : Program} {l : Launch} {e : Env} {s : State} {m : MethodId} {below : List Frame} {meth : Method} {c : Code} {b L : Nat} {xs : Nat → Int32} {Gc Gm : xG} (Z : yZ p s m meth c b L xs Gc Gm) {Rel : xS → xS → Prop} (hs : sim_image Rel) {i : Nat} (hi : i + 6 ≤ L) (hL : L ≤ 3072) {x3 : Int32} (ex3 : x3 = nI i) {Sc Sm : xS} (hrel : Rel Sc Sm) {H : Heap} {locs : List Loc} {ls : Array Slot} (hPc : xP Gc Yc Sc H) (hPm : xP Gm Ym Sm H) (hS : va_S (yA s) s.heap H locs) (hl : lv_has ls 4 [(0, .ref b), (1, .ref (xad Gc 0)), (2, .ref (xad Gm 0)), (3, .int x3)]) (next : ∀ (Sc Sm : xS) (H : Heap) (locs : List Loc) (ls : Array Slot), Rel Sc Sm → xP Gc Yc Sc H → xP Gm Ym Sm H → va_S (yA s) s.heap H locs → lv_has ls 4 [(0, .ref b), (1, .ref (xad Gc 0)), (2, .ref (xad Gm 0)), (3, .int x3)] → W p l e room_1 s m #[Value.ref b] below meth c H locs 62 12897 (lw_Z below #[Value.ref b] s) (F0 m 974 ls [])) : W p l e room_1 s m #[Value.ref b] below meth c H locs 62 12897 (lw_Z below #[Value.ref b] s) (F0 m 925 ls []) := by
  obtain ⟨hx, hb, hml, hown, hts, hr, hlk, hKc, hKm, hdis, hX, hbl⟩ := id Z
  have hbA : ¬ yA s b := Nat.not_le.mpr hbl
  obtain ⟨r, Sc', Sm', e1, e2, hrel'⟩ := hs Sc Sm  hrel
  refine lv_aload_n hx hb dL_law_925 rfl (lv_at hl 1 rfl) ?_
  refine y_goi (y_runV (As := []) (rest := []) hx hb hml hown hts hKc hS (kX8_image l Gc Sc 0  r Sc' rfl e1) qw909 okX8_image ⟨Nat.le_of_ble_eq_true rfl, Nat.le_of_ble_eq_true rfl⟩ rfl (by decide) rfl hPc rfl hl.1 rfl (Nat.le_of_ble_eq_true rfl) dL_law_926 ⟨Nat.le_of_ble_eq_true rfl, Nat.le_of_ble_eq_true rfl⟩) hS hKc.2.2.2 hPm hdis (fun H locs hPc hPm hS => ?_)
  refine lv_aload_n hx hb dL_law_929 rfl (lv_at hl 2 rfl) ?_
  refine y_goi (y_runV (As := []) (rest := [.int r]) hx hb hml hown hts hKm hS (kX9_image l Gm Sm 0  r Sm' rfl e2) qw910 okX9_image ⟨Nat.le_of_ble_eq_true rfl, Nat.le_of_ble_eq_true rfl⟩ rfl (by decide) rfl hPm rfl hl.1 rfl (Nat.le_of_ble_eq_true rfl) dL_law_930 ⟨Nat.le_of_ble_eq_true rfl, Nat.le_of_ble_eq_true rfl⟩) hS hKm.2.2.2 hPc (fun q h1 h2 => hdis q h2 h1) (fun H locs hPm hPc hS => ?_)
  refine lv_icmp_eq (tgt := 974) hx hb dL_law_933 (by decide) (fun _ => ?_) (fun c => absurd rfl c)
  exact next Sc' Sm' H locs ls hrel' hPc hPm hS hl
set_option maxHeartbeats 4000000 in
set_option maxRecDepth 100000 in
theorem law_back {p : Program} {l : Launch} {e : Env} {s : State} {m : MethodId} {below : List Frame} {meth : Method} {c : Code} {b L : Nat} {xs : Nat → Int32} {Gc Gm : xG} (Z : yZ p s m meth c b L xs Gc Gm) {Rel : xS → xS → Prop} (hs : sim_back Rel) {i : Nat} (hi : i + 6 ≤ L) (hL : L ≤ 3072) {x3 : Int32} (ex3 : x3 = nI i) {Sc Sm : xS} (hrel : Rel Sc Sm) {H : Heap} {locs : List Loc} {ls : Array Slot} (hPc : xP Gc Yc Sc H) (hPm : xP Gm Ym Sm H) (hS : va_S (yA s) s.heap H locs) (hl : lv_has ls 4 [(0, .ref b), (1, .ref (xad Gc 0)), (2, .ref (xad Gm 0)), (3, .int x3)]) (next : ∀ (Sc Sm : xS) (H : Heap) (locs : List Loc) (ls : Array Slot), Rel Sc Sm → xP Gc Yc Sc H → xP Gm Ym Sm H → va_S (yA s) s.heap H locs → lv_has ls 4 [(0, .ref b), (1, .ref (xad Gc 0)), (2, .ref (xad Gm 0)), (3, .int x3)] → W p l e room_1 s m #[Value.ref b] below meth c H locs 62 12897 (lw_Z below #[Value.ref b] s) (F0 m 974 ls [])) : W p l e room_1 s m #[Value.ref b] below meth c H locs 62 12897 (lw_Z below #[Value.ref b] s) (F0 m 938 ls []) := by
  obtain ⟨hx, hb, hml, hown, hts, hr, hlk, hKc, hKm, hdis, hX, hbl⟩ := id Z
  have hbA : ¬ yA s b := Nat.not_le.mpr hbl
  obtain ⟨r, Sc', Sm', e1, e2, hrel'⟩ := hs Sc Sm  hrel
  refine lv_aload_n hx hb dL_law_938 rfl (lv_at hl 1 rfl) ?_
  refine y_goi (y_runV (As := []) (rest := []) hx hb hml hown hts hKc hS (kX8_back l Gc Sc 0  r Sc' rfl e1) qw911 okX8_back ⟨Nat.le_of_ble_eq_true rfl, Nat.le_of_ble_eq_true rfl⟩ rfl (by decide) rfl hPc rfl hl.1 rfl (Nat.le_of_ble_eq_true rfl) dL_law_939 ⟨Nat.le_of_ble_eq_true rfl, Nat.le_of_ble_eq_true rfl⟩) hS hKc.2.2.2 hPm hdis (fun H locs hPc hPm hS => ?_)
  refine lv_aload_n hx hb dL_law_942 rfl (lv_at hl 2 rfl) ?_
  refine y_goi (y_runV (As := []) (rest := [.int r]) hx hb hml hown hts hKm hS (kX9_back l Gm Sm 0  r Sm' rfl e2) qw912 okX9_back ⟨Nat.le_of_ble_eq_true rfl, Nat.le_of_ble_eq_true rfl⟩ rfl (by decide) rfl hPm rfl hl.1 rfl (Nat.le_of_ble_eq_true rfl) dL_law_943 ⟨Nat.le_of_ble_eq_true rfl, Nat.le_of_ble_eq_true rfl⟩) hS hKm.2.2.2 hPc (fun q h1 h2 => hdis q h2 h1) (fun H locs hPm hPc hS => ?_)
  refine lv_icmp_eq (tgt := 974) hx hb dL_law_946 (by decide) (fun _ => ?_) (fun c => absurd rfl c)
  exact next Sc' Sm' H locs ls hrel' hPc hPm hS hl
set_option maxHeartbeats 4000000 in
set_option maxRecDepth 100000 in
theorem law_about {p : Program} {l : Launch} {e : Env} {s : State} {m : MethodId} {below : List Frame} {meth : Method} {c : Code} {b L : Nat} {xs : Nat → Int32} {Gc Gm : xG} (Z : yZ p s m meth c b L xs Gc Gm) {Rel : xS → xS → Prop} (hs : sim_about Rel) {i : Nat} (hi : i + 6 ≤ L) (hL : L ≤ 3072) {x3 : Int32} (ex3 : x3 = nI i) {Sc Sm : xS} (hrel : Rel Sc Sm) {H : Heap} {locs : List Loc} {ls : Array Slot} (hPc : xP Gc Yc Sc H) (hPm : xP Gm Ym Sm H) (hS : va_S (yA s) s.heap H locs) (hl : lv_has ls 4 [(0, .ref b), (1, .ref (xad Gc 0)), (2, .ref (xad Gm 0)), (3, .int x3)]) (next : ∀ (Sc Sm : xS) (H : Heap) (locs : List Loc) (ls : Array Slot), Rel Sc Sm → xP Gc Yc Sc H → xP Gm Ym Sm H → va_S (yA s) s.heap H locs → lv_has ls 4 [(0, .ref b), (1, .ref (xad Gc 0)), (2, .ref (xad Gm 0)), (3, .int x3)] → W p l e room_1 s m #[Value.ref b] below meth c H locs 62 12897 (lw_Z below #[Value.ref b] s) (F0 m 974 ls [])) : W p l e room_1 s m #[Value.ref b] below meth c H locs 62 12897 (lw_Z below #[Value.ref b] s) (F0 m 951 ls []) := by
  obtain ⟨hx, hb, hml, hown, hts, hr, hlk, hKc, hKm, hdis, hX, hbl⟩ := id Z
  have hbA : ¬ yA s b := Nat.not_le.mpr hbl
  obtain ⟨r, Sc', Sm', e1, e2, hrel'⟩ := hs Sc Sm (xs (x3 + 1).toNatClampNeg) hrel
  refine lv_aload_n hx hb dL_law_951 rfl (lv_at hl 1 rfl) ?_
  refine lv_aload_n hx hb dL_law_952 rfl (lv_at hl 0 rfl) ?_
  refine lv_iload_n hx hb dL_law_953 rfl (lv_at hl 3 rfl) ?_
  refine lv_iconst (v := 1) hx hb dL_law_954 (by decide) ?_
  refine lv_iadd hx hb dL_law_955 ?_
  refine va_sld hx hb hX hbl hbA hS (y_in 1 ex3 hi hL (by decide)) dL_law_956 ?_
  refine y_goi (y_runV (As := [.int (xs (x3 + 1).toNatClampNeg)]) (rest := []) hx hb hml hown hts hKc hS (kX8_about l Gc Sc 0 (xs (x3 + 1).toNatClampNeg) r Sc' rfl e1) qw913 okX8_about ⟨Nat.le_of_ble_eq_true rfl, Nat.le_of_ble_eq_true rfl⟩ rfl (by decide) rfl hPc rfl hl.1 rfl (Nat.le_of_ble_eq_true rfl) dL_law_957 ⟨Nat.le_of_ble_eq_true rfl, Nat.le_of_ble_eq_true rfl⟩) hS hKc.2.2.2 hPm hdis (fun H locs hPc hPm hS => ?_)
  refine lv_aload_n hx hb dL_law_960 rfl (lv_at hl 2 rfl) ?_
  refine lv_aload_n hx hb dL_law_961 rfl (lv_at hl 0 rfl) ?_
  refine lv_iload_n hx hb dL_law_962 rfl (lv_at hl 3 rfl) ?_
  refine lv_iconst (v := 1) hx hb dL_law_963 (by decide) ?_
  refine lv_iadd hx hb dL_law_964 ?_
  refine va_sld hx hb hX hbl hbA hS (y_in 1 ex3 hi hL (by decide)) dL_law_965 ?_
  refine y_goi (y_runV (As := [.int (xs (x3 + 1).toNatClampNeg)]) (rest := [.int r]) hx hb hml hown hts hKm hS (kX9_about l Gm Sm 0 (xs (x3 + 1).toNatClampNeg) r Sm' rfl e2) qw914 okX9_about ⟨Nat.le_of_ble_eq_true rfl, Nat.le_of_ble_eq_true rfl⟩ rfl (by decide) rfl hPm rfl hl.1 rfl (Nat.le_of_ble_eq_true rfl) dL_law_966 ⟨Nat.le_of_ble_eq_true rfl, Nat.le_of_ble_eq_true rfl⟩) hS hKm.2.2.2 hPc (fun q h1 h2 => hdis q h2 h1) (fun H locs hPm hPc hS => ?_)
  refine lv_icmp_eq (tgt := 974) hx hb dL_law_969 (by decide) (fun _ => ?_) (fun c => absurd rfl c)
  exact next Sc' Sm' H locs ls hrel' hPc hPm hS hl
/-- all that is asked of the two, call by call -/
def xSims (Rel : xS → xS → Prop) : Prop := sim_sister Rel ∧ sim_mice Rel ∧ sim_seed Rel ∧ sim_feed Rel ∧ sim_end Rel ∧ sim_text Rel ∧ sim_fault Rel ∧ sim_by Rel ∧ sim_slices Rel ∧ sim_seat Rel ∧ sim_hide Rel ∧ sim_give Rel ∧ sim_pass Rel ∧ sim_played Rel ∧ sim_undo Rel ∧ sim_of Rel ∧ sim_sisterOf Rel ∧ sim_comes Rel ∧ sim_odds Rel ∧ sim_apart Rel ∧ sim_flour Rel ∧ sim_saint Rel ∧ sim_seen Rel ∧ sim_who Rel ∧ sim_image Rel ∧ sim_back Rel ∧ sim_about Rel
set_option maxHeartbeats 4000000 in
set_option maxRecDepth 100000 in
theorem law_loop {p : Program} {l : Launch} {e : Env} {s : State} {m : MethodId} {below : List Frame} {meth : Method} {c : Code} {b L : Nat} {xs : Nat → Int32} {Gc Gm : xG} (hL : L ≤ 3072) (Z : yZ p s m meth c b L xs Gc Gm) {Rel : xS → xS → Prop} (hs : xSims Rel) : ∀ (n i : Nat) (x3 : Int32), i ≤ L → L + 7 ≤ i + n → x3 = nI i → ∀ (Sc Sm : xS), Rel Sc Sm → ∀ (H : Heap) (locs : List Loc) (ls : Array Slot), xP Gc Yc Sc H → xP Gm Ym Sm H → va_S (yA s) s.heap H locs → lv_has ls 4 [(0, .ref b), (1, .ref (xad Gc 0)), (2, .ref (xad Gm 0)), (3, .int x3)] → W p l e room_1 s m #[Value.ref b] below meth c H locs 62 12897 (lw_Z below #[Value.ref b] s) (F0 m 18 ls []) := by
  obtain ⟨hx, hb, hml, hown, hts, hr, hlk, hKc, hKm, hdis, hX, hbl⟩ := id Z
  have hbA : ¬ yA s b := Nat.not_le.mpr hbl
  intro n
  induction n with
  | zero =>
    intro i x3 h1 h2
    exact absurd h2 (by omega)
  | succ n ih =>
    intro i x3 h1 h2 ex3 Sc Sm hrel H locs ls hPc hPm hS hl
    refine lv_iload_n hx hb dL_law_18 rfl (lv_at hl 3 rfl) ?_
    refine lv_aload_n hx hb dL_law_19 rfl (lv_at hl 0 rfl) ?_
    refine va_slen hx hb hX hbl hbA hS dL_law_20 ?_
    refine lv_bipush (v := 6) hx hb dL_law_21 (by decide) ?_
    refine lv_isub hx hb dL_law_23 ?_
    refine lv_icmp_gt (tgt := 980) hx hb dL_law_24 (by decide) (fun c1 => ?_) (fun c1 => ?_)
    · refine lv_iconst (v := 1) hx hb dL_law_980 (by decide) ?_
      refine va_forget (fun q hq => hS.2.2 q hq) ?_
      refine W.widen (k := 600000) (n := 7302250) (Nat.le_of_ble_eq_true rfl) (Nat.le_of_ble_eq_true rfl) ?_
      exact lw_ret hx hb hr hlk dL_law_981
    have hi : i + 6 ≤ L := by
      rcases Nat.lt_or_ge L (i + 6) with q | q
      · exact absurd ((y_exit ex3 h1 hL).mpr q) c1
      · exact q
    refine lv_aload_n hx hb dL_law_27 rfl (lv_at hl 0 rfl) ?_
    refine lv_iload_n hx hb dL_law_28 rfl (lv_at hl 3 rfl) ?_
    refine va_sld hx hb hX hbl hbA hS (y_in0 ex3 hi hL) dL_law_29 ?_
    refine lv_bipush (v := 31) hx hb dL_law_30 (by decide) ?_
    refine lv_iand hx hb dL_law_32 ?_
    have next : ∀ (Sc Sm : xS) (H : Heap) (locs : List Loc) (ls : Array Slot), Rel Sc Sm → xP Gc Yc Sc H → xP Gm Ym Sm H → va_S (yA s) s.heap H locs → lv_has ls 4 [(0, .ref b), (1, .ref (xad Gc 0)), (2, .ref (xad Gm 0)), (3, .int x3)] → W p l e room_1 s m #[Value.ref b] below meth c H locs 62 12897 (lw_Z below #[Value.ref b] s) (F0 m 974 ls []) := by
      intro Sc Sm H locs ls hrel hPc hPm hS hl
      refine lv_iinc (v := x3 + 6) (lv' := [(3, .int (x3 + 6)), (0, .ref b), (1, .ref (xad Gc 0)), (2, .ref (xad Gm 0))]) hx hb dL_law_974 hl (k := 3) rfl rfl (by decide) rfl (fun ls hl => ?_)
      refine lv_goto (tgt := 18) hx hb dL_law_977 (by decide) ?_
      exact ih (i + 6) (x3 + 6) (by omega) (by omega) (by rw [ex3]; exact nI_add i 6) Sc Sm hrel H locs ls hPc hPm hS (lv_sub hl [1, 2, 3, 0] rfl)
    generalize (xs x3.toNatClampNeg &&& 31) = w
    by_cases c10 : w = 0
    · refine x_tabIn (tgt := 156) (off := 123) hx hb dL_law_33 c10 (by decide) (by decide) (by decide) (by decide) ?_
      exact law_sister Z hs.1 hi hL ex3 hrel hPc hPm hS hl next
    by_cases c11 : w = 1
    · refine x_tabIn (tgt := 179) (off := 146) hx hb dL_law_33 c11 (by decide) (by decide) (by decide) (by decide) ?_
      exact law_mice Z hs.2.1 hi hL ex3 hrel hPc hPm hS hl next
    by_cases c12 : w = 2
    · refine x_tabIn (tgt := 202) (off := 169) hx hb dL_law_33 c12 (by decide) (by decide) (by decide) (by decide) ?_
      exact law_seed Z hs.2.2.1 hi hL ex3 hrel hPc hPm hS hl next
    by_cases c13 : w = 3
    · refine x_tabIn (tgt := 225) (off := 192) hx hb dL_law_33 c13 (by decide) (by decide) (by decide) (by decide) ?_
      exact law_feed Z hs.2.2.2.1 hi hL ex3 hrel hPc hPm hS hl next
    by_cases c14 : w = 4
    · refine x_tabIn (tgt := 288) (off := 255) hx hb dL_law_33 c14 (by decide) (by decide) (by decide) (by decide) ?_
      exact law_end Z hs.2.2.2.2.1 hi hL ex3 hrel hPc hPm hS hl next
    by_cases c15 : w = 5
    · refine x_tabIn (tgt := 311) (off := 278) hx hb dL_law_33 c15 (by decide) (by decide) (by decide) (by decide) ?_
      exact law_text Z hs.2.2.2.2.2.1 hi hL ex3 hrel hPc hPm hS hl next
    by_cases c16 : w = 6
    · refine x_tabIn (tgt := 324) (off := 291) hx hb dL_law_33 c16 (by decide) (by decide) (by decide) (by decide) ?_
      exact law_fault Z hs.2.2.2.2.2.2.1 hi hL ex3 hrel hPc hPm hS hl next
    by_cases c17 : w = 7
    · refine x_tabIn (tgt := 347) (off := 314) hx hb dL_law_33 c17 (by decide) (by decide) (by decide) (by decide) ?_
      exact law_by Z hs.2.2.2.2.2.2.2.1 hi hL ex3 hrel hPc hPm hS hl next
    by_cases c18 : w = 8
    · refine x_tabIn (tgt := 370) (off := 337) hx hb dL_law_33 c18 (by decide) (by decide) (by decide) (by decide) ?_
      exact law_slices Z hs.2.2.2.2.2.2.2.2.1 hi hL ex3 hrel hPc hPm hS hl next
    by_cases c19 : w = 9
    · refine x_tabIn (tgt := 403) (off := 370) hx hb dL_law_33 c19 (by decide) (by decide) (by decide) (by decide) ?_
      exact law_seat Z hs.2.2.2.2.2.2.2.2.2.1 hi hL ex3 hrel hPc hPm hS hl next
    by_cases c20 : w = 10
    · refine x_tabIn (tgt := 436) (off := 403) hx hb dL_law_33 c20 (by decide) (by decide) (by decide) (by decide) ?_
      exact law_hide Z hs.2.2.2.2.2.2.2.2.2.2.1 hi hL ex3 hrel hPc hPm hS hl next
    by_cases c21 : w = 11
    · refine x_tabIn (tgt := 469) (off := 436) hx hb dL_law_33 c21 (by decide) (by decide) (by decide) (by decide) ?_
      exact law_give Z hs.2.2.2.2.2.2.2.2.2.2.2.1 hi hL ex3 hrel hPc hPm hS hl next
    by_cases c22 : w = 12
    · refine x_tabIn (tgt := 502) (off := 469) hx hb dL_law_33 c22 (by decide) (by decide) (by decide) (by decide) ?_
      exact law_pass Z hs.2.2.2.2.2.2.2.2.2.2.2.2.1 hi hL ex3 hrel hPc hPm hS hl next
    by_cases c23 : w = 13
    · refine x_tabIn (tgt := 525) (off := 492) hx hb dL_law_33 c23 (by decide) (by decide) (by decide) (by decide) ?_
      exact law_played Z hs.2.2.2.2.2.2.2.2.2.2.2.2.2.1 hi hL ex3 hrel hPc hPm hS hl next
    by_cases c24 : w = 14
    · refine x_tabIn (tgt := 548) (off := 515) hx hb dL_law_33 c24 (by decide) (by decide) (by decide) (by decide) ?_
      exact law_undo Z hs.2.2.2.2.2.2.2.2.2.2.2.2.2.2.1 hi hL ex3 hrel hPc hPm hS hl next
    by_cases c25 : w = 15
    · refine x_tabIn (tgt := 561) (off := 528) hx hb dL_law_33 c25 (by decide) (by decide) (by decide) (by decide) ?_
      exact law_of Z hs.2.2.2.2.2.2.2.2.2.2.2.2.2.2.2.1 hi hL ex3 hrel hPc hPm hS hl next
    by_cases c26 : w = 16
    · refine x_tabIn (tgt := 594) (off := 561) hx hb dL_law_33 c26 (by decide) (by decide) (by decide) (by decide) ?_
      exact law_sisterOf Z hs.2.2.2.2.2.2.2.2.2.2.2.2.2.2.2.2.1 hi hL ex3 hrel hPc hPm hS hl next
    by_cases c27 : w = 17
    · refine x_tabIn (tgt := 627) (off := 594) hx hb dL_law_33 c27 (by decide) (by decide) (by decide) (by decide) ?_
      exact law_comes Z hs.2.2.2.2.2.2.2.2.2.2.2.2.2.2.2.2.2.1 hi hL ex3 hrel hPc hPm hS hl next
    by_cases c28 : w = 18
    · refine x_tabIn (tgt := 686) (off := 653) hx hb dL_law_33 c28 (by decide) (by decide) (by decide) (by decide) ?_
      exact law_odds Z hs.2.2.2.2.2.2.2.2.2.2.2.2.2.2.2.2.2.2.1 hi hL ex3 hrel hPc hPm hS hl next
    by_cases c29 : w = 19
    · refine x_tabIn (tgt := 740) (off := 707) hx hb dL_law_33 c29 (by decide) (by decide) (by decide) (by decide) ?_
      exact law_apart Z hs.2.2.2.2.2.2.2.2.2.2.2.2.2.2.2.2.2.2.2.1 hi hL ex3 hrel hPc hPm hS hl next
    by_cases c30 : w = 20
    · refine x_tabIn (tgt := 763) (off := 730) hx hb dL_law_33 c30 (by decide) (by decide) (by decide) (by decide) ?_
      exact law_flour Z hs.2.2.2.2.2.2.2.2.2.2.2.2.2.2.2.2.2.2.2.2.1 hi hL ex3 hrel hPc hPm hS hl next
    by_cases c31 : w = 21
    · refine x_tabIn (tgt := 806) (off := 773) hx hb dL_law_33 c31 (by decide) (by decide) (by decide) (by decide) ?_
      exact law_saint Z hs.2.2.2.2.2.2.2.2.2.2.2.2.2.2.2.2.2.2.2.2.2.1 hi hL ex3 hrel hPc hPm hS hl next
    by_cases c32 : w = 22
    · refine x_tabIn (tgt := 859) (off := 826) hx hb dL_law_33 c32 (by decide) (by decide) (by decide) (by decide) ?_
      exact law_seen Z hs.2.2.2.2.2.2.2.2.2.2.2.2.2.2.2.2.2.2.2.2.2.2.1 hi hL ex3 hrel hPc hPm hS hl next
    by_cases c33 : w = 23
    · refine x_tabIn (tgt := 882) (off := 849) hx hb dL_law_33 c33 (by decide) (by decide) (by decide) (by decide) ?_
      exact law_who Z hs.2.2.2.2.2.2.2.2.2.2.2.2.2.2.2.2.2.2.2.2.2.2.2.1 hi hL ex3 hrel hPc hPm hS hl next
    by_cases c34 : w = 24
    · refine x_tabIn (tgt := 925) (off := 892) hx hb dL_law_33 c34 (by decide) (by decide) (by decide) (by decide) ?_
      exact law_image Z hs.2.2.2.2.2.2.2.2.2.2.2.2.2.2.2.2.2.2.2.2.2.2.2.2.1 hi hL ex3 hrel hPc hPm hS hl next
    by_cases c35 : w = 25
    · refine x_tabIn (tgt := 938) (off := 905) hx hb dL_law_33 c35 (by decide) (by decide) (by decide) (by decide) ?_
      exact law_back Z hs.2.2.2.2.2.2.2.2.2.2.2.2.2.2.2.2.2.2.2.2.2.2.2.2.2.1 hi hL ex3 hrel hPc hPm hS hl next
    by_cases c36 : w = 26
    · refine x_tabIn (tgt := 951) (off := 918) hx hb dL_law_33 c36 (by decide) (by decide) (by decide) (by decide) ?_
      exact law_about Z hs.2.2.2.2.2.2.2.2.2.2.2.2.2.2.2.2.2.2.2.2.2.2.2.2.2.2 hi hL ex3 hrel hPc hPm hS hl next
    have g10 : ¬ w.toInt = 0 := xne c10
    have g11 : ¬ w.toInt = 1 := xne c11
    have g12 : ¬ w.toInt = 2 := xne c12
    have g13 : ¬ w.toInt = 3 := xne c13
    have g14 : ¬ w.toInt = 4 := xne c14
    have g15 : ¬ w.toInt = 5 := xne c15
    have g16 : ¬ w.toInt = 6 := xne c16
    have g17 : ¬ w.toInt = 7 := xne c17
    have g18 : ¬ w.toInt = 8 := xne c18
    have g19 : ¬ w.toInt = 9 := xne c19
    have g20 : ¬ w.toInt = 10 := xne c20
    have g21 : ¬ w.toInt = 11 := xne c21
    have g22 : ¬ w.toInt = 12 := xne c22
    have g23 : ¬ w.toInt = 13 := xne c23
    have g24 : ¬ w.toInt = 14 := xne c24
    have g25 : ¬ w.toInt = 15 := xne c25
    have g26 : ¬ w.toInt = 16 := xne c26
    have g27 : ¬ w.toInt = 17 := xne c27
    have g28 : ¬ w.toInt = 18 := xne c28
    have g29 : ¬ w.toInt = 19 := xne c29
    have g30 : ¬ w.toInt = 20 := xne c30
    have g31 : ¬ w.toInt = 21 := xne c31
    have g32 : ¬ w.toInt = 22 := xne c32
    have g33 : ¬ w.toInt = 23 := xne c33
    have g34 : ¬ w.toInt = 24 := xne c34
    have g35 : ¬ w.toInt = 25 := xne c35
    have g36 : ¬ w.toInt = 26 := xne c36
    refine lv_tableOut (tgt := 974) hx hb dL_law_33 (by omega) (by decide) ?_
    exact next Sc Sm H locs ls hrel hPc hPm hS hl

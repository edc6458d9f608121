theorem qw1053 : Cond.instantiable RX8 7 ∈ xU := xU_in (List.mem_append_right _ (List.mem_of_getElem? (i := 19) (by decide +kernel))) (by decide +kernel)
theorem qw1054 : Cond.instantiable RX9 33 ∈ xU := xU_in (List.mem_append_right _ (List.mem_of_getElem? (i := 825) (by decide +kernel))) (by decide +kernel)
theorem qw1055 : Cond.classLink RL 7 RX8 ∈ xU := xU_in (List.mem_append_right _ (List.mem_of_getElem? (i := 18) (by decide +kernel))) (by decide +kernel)
theorem qw1056 : Cond.classLink RL 10 RX9 ∈ xU := xU_in (List.mem_append_right _ (List.mem_of_getElem? (i := 824) (by decide +kernel))) (by decide +kernel)
theorem qw1057 : Cond.methodLink RL 9 yX8_init ∈ xU := xU_in (List.mem_append_right _ (List.mem_of_getElem? (i := 20) (by decide +kernel))) (by decide +kernel)
theorem qw1058 : Cond.methodLink RL 12 yX9_init ∈ xU := xU_in (List.mem_append_right _ (List.mem_of_getElem? (i := 826) (by decide +kernel))) (by decide +kernel)
theorem qw1059 : Cond.code yX8_init cX8_init 2 none ∈ xU := xU_in (List.mem_append_right _ (List.mem_of_getElem? (i := 22) (by decide +kernel))) (by decide +kernel)
theorem qw1060 : Cond.instanceMethod yX8_init ∈ xU := xU_in (List.mem_append_right _ (List.mem_of_getElem? (i := 21) (by decide +kernel))) (by decide +kernel)
theorem qw1061 : Cond.code yX9_init cX9_init 1 none ∈ xU := xU_in (List.mem_append_right _ (List.mem_of_getElem? (i := 828) (by decide +kernel))) (by decide +kernel)
theorem qw1062 : Cond.instanceMethod yX9_init ∈ xU := xU_in (List.mem_append_right _ (List.mem_of_getElem? (i := 827) (by decide +kernel))) (by decide +kernel)
theorem oiX8_init : Cond.instanceMethod yX8_init ∈ xU ∧ Cond.initialized yX8_init.cls ∈ xU ∧ Cond.code yX8_init cX8_init 2 none ∈ xU ∧ (yX8_init.cls ≠ "java/lang/invoke/MethodHandle" ∧ yX8_init.cls ≠ "java/lang/invoke/VarHandle" ∧ (parseMethodDescriptor yX8_init.desc).map (fun d => d.parameters.length) = some 0) := ⟨qw1060, qw623, qw1059, by decide +kernel⟩
theorem oiX9_init : Cond.instanceMethod yX9_init ∈ xU ∧ Cond.initialized yX9_init.cls ∈ xU ∧ Cond.code yX9_init cX9_init 1 none ∈ xU ∧ (yX9_init.cls ≠ "java/lang/invoke/MethodHandle" ∧ yX9_init.cls ≠ "java/lang/invoke/VarHandle" ∧ (parseMethodDescriptor yX9_init.desc).map (fun d => d.parameters.length) = some 0) := ⟨qw1062, qw649, qw1061, by decide +kernel⟩
def xtm (i : Nat) : Term := if i = 0 then .string "CakeCalendar$Tokens" 58 else .string "CakeCalendar$Tokens" 82
theorem xs_ex : ∀ i, i < 2 → Cond.exactly (xtm i) "java/lang/String" ∈ flatC (Jvm.Cond.and given_1 narrow_1) := by decide +kernel
theorem xs_co : ∀ i, i < 2 → Cond.eq (.field (xtm i) "java/lang/String" "coder" "B") (.int 0) ∈ flatC (Jvm.Cond.and given_1 narrow_1) := by decide +kernel
theorem xs_ar : ∀ i, i < 2 → Cond.arrayOf (.field (xtm i) "java/lang/String" "value" "[B") .byte ∈ flatC (Jvm.Cond.and given_1 narrow_1) := by decide +kernel
theorem xs_le : ∀ i, i < 2 → Cond.eq (.length (.field (xtm i) "java/lang/String" "value" "[B")) (.int (Int32.ofNat (xtl.getD i 0))) ∈ flatC (Jvm.Cond.and given_1 narrow_1) := by decide +kernel
theorem xs_el : ∀ i, i < 2 → ∀ j, j < xtl.getD i 0 → Cond.eq (.elem (.field (xtm i) "java/lang/String" "value" "[B") (.int (Int32.ofNat j))) (.int ((xtb.getD i []).getD j 0)) ∈ flatC (Jvm.Cond.and given_1 narrow_1) := by decide +kernel
theorem xs_ne : Cond.not (Cond.eq (xtm 0) (xtm 1)) ∈ flatC (Jvm.Cond.and given_1 narrow_1) ∨ Cond.not (Cond.eq (xtm 1) (xtm 0)) ∈ flatC (Jvm.Cond.and given_1 narrow_1) := by decide +kernel
theorem xs_cs : Cond.eq (.static "java/lang/String" "COMPACT_STRINGS" "Z") (.int 1) ∈ flatC (Jvm.Cond.and given_1 narrow_1) := by decide +kernel
theorem xs_si : Cond.isRef (.static "jdk/internal/util/Preconditions" "SIOOBE_FORMATTER" "Ljava/util/function/BiFunction;") ∈ flatC (Jvm.Cond.and given_1 narrow_1) := by decide +kernel
theorem xE_start {b : Nat} {s : State} (hts : ∀ w ∈ lw_tbl, w.before #[Value.ref b] s = true) (hgv : (Jvm.Cond.and given_1 narrow_1).before #[Value.ref b] s = true) : ∃ kv : (Nat → Nat) × (Nat → Nat), ∀ (D : va_G) (cy : Nat → ClassId) (ad : Nat → Nat), xE (D, cy, ad, kv) (yA s) s s.heap := by
  have hs := flat_of_before _ hgv
  have hA : ∀ a : Nat, a < s.heap.size → ¬ yA s a := fun a h => Nat.not_le.mpr h
  obtain ⟨adK, adV, hK, hev⟩ := vk_Sof (N := 2) (tm := xtm) (len := xtl) (byt := xtb) (A := yA s) (args := #[Value.ref b]) (s := s) xtl_lt (fun i hi => hs _ (xs_ex i hi)) (fun i hi => hs _ (xs_co i hi)) (fun i hi => hs _ (xs_ar i hi)) (fun i hi => hs _ (xs_le i hi)) (fun i hi j hj => hs _ (xs_el i hi j hj)) (fun i j hi hj hij => by
    rcases (show (i = 0 ∧ j = 1) ∨ (i = 1 ∧ j = 0) by omega) with ⟨rfl, rfl⟩ | ⟨rfl, rfl⟩
    · exact xs_ne.elim (fun h => Or.inl (hs _ h)) (fun h => Or.inr (hs _ h))
    · exact xs_ne.elim (fun h => Or.inr (hs _ h)) (fun h => Or.inl (hs _ h))) hA
  refine ⟨(adK, adV), fun D cy ad => ⟨vk_R.of (hts _ (by decide +kernel)) (hev 0 (by decide)), vk_R.of (hts _ (by decide +kernel)) (hev 1 (by decide)), hK, va_Zof (hts _ (by decide +kernel)) (hts _ (by decide +kernel)) (va_eqt (hs _ xs_cs)) hA, va_Zqof (hts _ (by decide +kernel)) (hts _ (by decide +kernel)) (hs _ xs_si) hA⟩⟩
theorem xNw_start {b : Nat} {s : State} (hts : ∀ w ∈ lw_tbl, w.before #[Value.ref b] s = true) : xNw s := ⟨va_Nw.of rfl (hts _ (by decide +kernel)), va_Nw.of rfl (hts _ (by decide +kernel)), va_Nw.of rfl (hts _ (by decide +kernel)), va_Nw.of rfl (hts _ (by decide +kernel)), va_Nw.of rfl (hts _ (by decide +kernel)), va_AO.of (hts _ (by decide +kernel))⟩
theorem xK_start {b : Nat} {s : State} (hts : ∀ w ∈ xU, w.before #[Value.ref b] s = true) (hAO : va_AO "CakeCalendar$Text" s) : ∃ (D : va_G) (cy : Nat → ClassId), va_K D vwCl (xty cy) s := by
  obtain ⟨c0, iS0, hKn0⟩ := u_known (C := RX0) (T := TX0) (N := 5) (n := 5) hts xinX0 (hts _ qw344)
  obtain ⟨c1, iS1, hKn1⟩ := u_known (C := RX1) (T := TX1) (N := 11) (n := 11) hts xinX1 (hts _ qw354)
  obtain ⟨c2, iS2, hKn2⟩ := u_known (C := RX2) (T := TX2) (N := 7) (n := 7) hts xinX2 (hts _ qw363)
  obtain ⟨c3, iS3, hKn3⟩ := u_known (C := RX3) (T := TX3) (N := 4) (n := 4) hts xinX3 (hts _ qw359)
  obtain ⟨c4, iS4, hKn4⟩ := u_known (C := RX4) (T := TX4) (N := 6) (n := 6) hts xinX4 (hts _ qw370)
  obtain ⟨c5, iS5, hKn5⟩ := u_known (C := RX5) (T := TX5) (N := 2) (n := 2) hts xinX5 (hts _ qw347)
  obtain ⟨c6, iS6, hKn6⟩ := u_known (C := RX6) (T := TX6) (N := 11) (n := 11) hts xinX6 (hts _ qw373)
  obtain ⟨c7, iS7, hKn7⟩ := u_known (C := RX7) (T := TX7) (N := 6) (n := 6) hts xinX7 (hts _ qw367)
  obtain ⟨c8, iS8, hKn8⟩ := u_known (C := RX8) (T := TX8) (N := 7) (n := 7) hts xinX8 (hts _ qw1053)
  obtain ⟨c9, iS9, hKn9⟩ := u_known (C := RX9) (T := TX9) (N := 33) (n := 33) hts xinX9 (hts _ qw1054)
  obtain ⟨a0, ka0, co0, hf0, hk0, hd0⟩ := Cond.arrayClass_spec (hts _ qw336)
  obtain ⟨a1, ka1, co1, hf1, hk1, hd1⟩ := Cond.arrayClass_spec (hts _ qw351)
  obtain ⟨a2, ka2, co2, hf2, hk2, hd2⟩ := Cond.arrayClass_spec (hts _ qw376)
  obtain ⟨co3, a3, ka3, hc3, hi3, hk3, hd3, hf3⟩ := Cond.arrayOver_spec hAO
  refine ⟨(fun k => if k = 0 then c0 else if k = 1 then c1 else if k = 2 then c2 else if k = 3 then c3 else if k = 4 then c4 else if k = 5 then c5 else if k = 6 then c6 else if k = 7 then c7 else if k = 8 then c8 else c9, fun k => if k = 0 then iS0 else if k = 1 then iS1 else if k = 2 then iS2 else if k = 3 then iS3 else if k = 4 then iS4 else if k = 5 then iS5 else if k = 6 then iS6 else if k = 7 then iS7 else if k = 8 then iS8 else iS9), fun k => if k = 0 then a0 else if k = 1 then a1 else if k = 2 then a2 else a3, ?_, ?_⟩
  · intro k q hq
    match k, hq with
    | 0, hq => cases hq; exact hKn0
    | 1, hq => cases hq; exact hKn1
    | 2, hq => cases hq; exact hKn2
    | 3, hq => cases hq; exact hKn3
    | 4, hq => cases hq; exact hKn4
    | 5, hq => cases hq; exact hKn5
    | 6, hq => cases hq; exact hKn6
    | 7, hq => cases hq; exact hKn7
    | 8, hq => cases hq; exact hKn8
    | 9, hq => cases hq; exact hKn9
    | k + 10, hq => simp [vwCl] at hq
  · intro k q hq
    match k, hq with
    | 0, hq => cases hq; exact ⟨fun n z => ⟨fun k h => (by cases h), ka0, hk0, co0, hd0⟩, hf0⟩
    | 1, hq => cases hq; exact ⟨fun n z => ⟨fun k h => (by cases h), ka1, hk1, co1, hd1⟩, hf1⟩
    | 2, hq => cases hq; exact ⟨fun n z => ⟨fun k h => (by cases h), ka2, hk2, co2, hd2⟩, hf2⟩
    | 3, hq => cases hq; exact ⟨fun n z => ⟨fun k h => (by cases h), ka3, hk3, co3, hd3⟩, ka3, co3, hk3, hd3, hc3, hf3⟩
    | k + 4, hq => simp [xty] at hq
set_option maxHeartbeats 4000000 in
set_option maxRecDepth 100000 in
theorem whole_open {p : Program} {e : Env} {s : State} {m : MethodId} {below : List Frame} {meth : Method} {c : Code} (l : Launch) {b L : Nat} {xs : Nat → Int32} {Rel : xS → xS → Prop} (hsim : xSims Rel) (hrel : Rel Sc0 Sm1) (hL : L ≤ 3072) (C0 : lw_At p s m meth c b L xs) : W p l e room_1 s m #[Value.ref b] below meth c s.heap [] 0 0 (lw_Z below #[Value.ref b] s) (entryFrame m ([Value.ref b] : List Value).toArray 4) := by
  obtain ⟨hx, hb, hr, hml, hown, hts0, hX, hbl, hlocks, hgv⟩ := id C0
  have hts : ∀ w ∈ xU, w.before #[Value.ref b] s = true := fun w h => hts0 w (xU_tbl h)
  have hown : s.vm.findClass RL = some m.cls := hown
  have hA : ∀ q : Nat, s.heap.size ≤ q → yA s q := fun _ h => h
  obtain ⟨kv, hE⟩ := xE_start hts0 hgv
  have hNw := xNw_start hts0
  obtain ⟨D, cy, hK⟩ := xK_start hts hNw.2.2.2.2.2
  have hS : va_S (yA s) s.heap s.heap [] := va_S.rf
  have hP : va_P D vwCl [] s.heap := fun k q h => by simp at h
  have hD : va_D (yA s) [] := ⟨fun i j p q h => by simp at h, fun k q h => by simp at h⟩
  have hl := lv_entry ([.ref b]) (n := 4) (Nat.le_of_ble_eq_true rfl)
  rw [lg_entry_eq]
  generalize (lg_sl ([.ref b]) ++ List.replicate (4 - (lg_sl ([.ref b])).length) Slot.unset).toArray = ls at hl ⊢
  have hl : lv_has ls 4 [(0, .ref b)] := hl
  refine va_new (ci := 8) (fs := [.null, .null, .null, .null, .null, .null, .null]) (C := RX8) (T := TX8) (N := 7) hx hb hts xinX8 tyX8 tyX8_ok hown (hts _ qw1055) (hts _ qw1053) (hts _ qw623) hK hP hD hS hA rfl (fun j hj => by rcases (show j = 0 ∨ j = 1 ∨ j = 2 ∨ j = 3 ∨ j = 4 ∨ j = 5 ∨ j = 6 by omega) with rfl | rfl | rfl | rfl | rfl | rfl | rfl <;> rfl) (Nat.le_of_ble_eq_true rfl) (Nat.le_of_ble_eq_true rfl) dL_law_0 (fun q8 H hP hD hS => ?_)
  have hP : va_P D vwCl [(q8, .inr (8, [.null, .null, .null, .null, .null, .null, .null]))] H := hP
  have hD : va_D (yA s) [(q8, .inr (8, [.null, .null, .null, .null, .null, .null, .null]))] := hD
  refine W.widen (k := 1) (n := 7) (by decide) (by decide) ?_
  refine lv_dup hx hb dL_law_3 rfl ?_
  have hFc := va_free (wc := [(q8, .inr (8, [.null, .null, .null, .null, .null, .null, .null]))]) hD hS hA [0] rfl
  refine va_callv (va_runI (As := []) (rest := [.ref q8]) (Ts := xU) ⟨hx, hb, hml, hown, hts⟩ (nX8_init l D cy q8 H.size) (cwI 0 hts (xU_goodc (fun _ h => h) oiX8_init.2.2.1) rfl rfl rfl (hts _ oiX8_init.2.1) (hts _ qw1057) (hts _ oiX8_init.1) rfl oiX8_init.2.2.2 ⟨Nat.le_of_ble_eq_true rfl, Nat.le_of_ble_eq_true rfl⟩) ⟨fun a U g mk q => by obtain ⟨q0, q1, qP, qK, qD, qN⟩ := q; exact ⟨q0, q1, qP, va_K.moved (u := U) (U := U.calling g mk a) (Vm.Alike.refl U.vm) qK, qD, xNw.same (u := U) (U := U.calling g mk a) rfl (Vm.Alike.refl U.vm) qN⟩, fun U hU hW => ⟨rfl, by rw [hU], by rw [hU]; exact hP, va_K.moved hW.alike hK, hD.weaken (fun _ _ _ _ => trivial), hNw.warm hW⟩⟩ rfl rfl hl.1 rfl (lv_room (Nat.le_of_ble_eq_true rfl)) dL_law_4 ⟨Nat.le_of_ble_eq_true rfl, Nat.le_of_ble_eq_true rfl⟩) hS (fun q _ h => hFc q h) hFc (fun u t H1 locs ht hvm hw hB hz1 hk1 hS => ?_)
  obtain ⟨hP1, hD1⟩ := hB
  rw [ht, nlX8_pool D cy q8 u kv] at hP1
  rw [nlX8_pool D cy q8 u kv] at hD1
  have hD1 := hD1.weaken (B := yA s) (fun k q _ h => hFc q.1 h)
  obtain ⟨Gc, eGc⟩ : ∃ G : xG, G = (D, cy, xadd q8 u, kv) := ⟨_, rfl⟩
  have hPc : xP Gc Yc Sc0 H1 := by rw [eGc]; exact hP1
  have hDc : va_D (yA s) (xw Gc Yc Sc0) := by rw [eGc]; exact hD1
  have hKc : va_K Gc.1 vwCl (xt Gc) s := by rw [eGc]; exact hK
  have hEc : xE Gc (yA s) s s.heap := by rw [eGc]; exact hE _ _ _
  have e8 : xad Gc 0 = q8 := by rw [eGc]; rfl
  generalize H1 = H at hPc hS ⊢
  refine W.widen (k := 50) (n := 6030) (by decide) (by decide) ?_
  rw [← e8]
  refine lv_astore_n (lv' := [(1, .ref (xad Gc 0)), (0, .ref b)]) hx hb dL_law_7 rfl hl (by decide) rfl (fun ls hl => ?_)
  refine va_new (ci := 9) (fs := [.null, .null, .null, .null, .int 0, .int 0, .int 0, .int 0, .int 0, .int 0, .int 0, .long 0, .int 0, .int 0, .int 0, .int 0, .null, .int 0, .int 0, .int 0, .int 0, .int 0, .null, .null, .null, .int 0, .int 0, .int 0, .int 0, .int 0, .null, .null, .null]) (C := RX9) (T := TX9) (N := 33) (D := D) (cl := vwCl) (ws := xw Gc Yc Sc0) hx hb hts xinX9 tyX9 tyX9_ok hown (hts _ qw1056) (hts _ qw1054) (hts _ qw649) hK (by rw [eGc] at hPc ⊢; exact hPc) hDc hS hA rfl (fun j hj => by rcases (show j = 0 ∨ j = 1 ∨ j = 2 ∨ j = 3 ∨ j = 4 ∨ j = 5 ∨ j = 6 ∨ j = 7 ∨ j = 8 ∨ j = 9 ∨ j = 10 ∨ j = 11 ∨ j = 12 ∨ j = 13 ∨ j = 14 ∨ j = 15 ∨ j = 16 ∨ j = 17 ∨ j = 18 ∨ j = 19 ∨ j = 20 ∨ j = 21 ∨ j = 22 ∨ j = 23 ∨ j = 24 ∨ j = 25 ∨ j = 26 ∨ j = 27 ∨ j = 28 ∨ j = 29 ∨ j = 30 ∨ j = 31 ∨ j = 32 by omega) with rfl | rfl | rfl | rfl | rfl | rfl | rfl | rfl | rfl | rfl | rfl | rfl | rfl | rfl | rfl | rfl | rfl | rfl | rfl | rfl | rfl | rfl | rfl | rfl | rfl | rfl | rfl | rfl | rfl | rfl | rfl | rfl | rfl <;> rfl) (Nat.le_of_ble_eq_true rfl) (Nat.le_of_ble_eq_true rfl) dL_law_8 (fun q9 H hP hD hS => ?_)
  have h50 : (xw Gc Yc Sc0 ++ [(q9, .inr (9, [.null, .null, .null, .null, .int 0, .int 0, .int 0, .int 0, .int 0, .int 0, .int 0, .long 0, .int 0, .int 0, .int 0, .int 0, .null, .int 0, .int 0, .int 0, .int 0, .int 0, .null, .null, .null, .int 0, .int 0, .int 0, .int 0, .int 0, .null, .null, .null]))])[50]? = some (q9, .inr (9, [.null, .null, .null, .null, .int 0, .int 0, .int 0, .int 0, .int 0, .int 0, .int 0, .long 0, .int 0, .int 0, .int 0, .int 0, .null, .int 0, .int 0, .int 0, .int 0, .int 0, .null, .null, .null, .int 0, .int 0, .int 0, .int 0, .int 0, .null, .null, .null])) := by
    rw [List.getElem?_append_right (by rw [xw_len]; exact Nat.le_refl 50), xw_len]
    rfl
  have hPq : va_P D vwCl [(q9, .inr (9, [.null, .null, .null, .null, .int 0, .int 0, .int 0, .int 0, .int 0, .int 0, .int 0, .long 0, .int 0, .int 0, .int 0, .int 0, .null, .int 0, .int 0, .int 0, .int 0, .int 0, .null, .null, .null, .int 0, .int 0, .int 0, .int 0, .int 0, .null, .null, .null]))] H := hP.sub [50] (by rw [List.filterMap_cons_some h50]; rfl)
  have hDq : va_D (yA s) [(q9, .inr (9, [.null, .null, .null, .null, .int 0, .int 0, .int 0, .int 0, .int 0, .int 0, .int 0, .long 0, .int 0, .int 0, .int 0, .int 0, .null, .int 0, .int 0, .int 0, .int 0, .int 0, .null, .null, .null, .int 0, .int 0, .int 0, .int 0, .int 0, .null, .null, .null]))] := hD.sub [50] (by decide) (by rw [List.map_cons, h50]; rfl)
  have hPc : xP Gc Yc Sc0 H := by
    unfold xP
    rw [show Gc.1 = D from by rw [eGc]]
    exact fun k x hx => hP k x (by rw [List.getElem?_append_left (List.getElem?_eq_some_iff.mp hx).1]; exact hx)
  have hne : ∀ q, xA Gc Yc q → q ≠ q9 := by
    intro q hq e
    obtain ⟨k, hk, rfl⟩ := hq
    have hk2 : (xw Gc Yc Sc0 ++ [(q9, .inr (9, [.null, .null, .null, .null, .int 0, .int 0, .int 0, .int 0, .int 0, .int 0, .int 0, .long 0, .int 0, .int 0, .int 0, .int 0, .null, .int 0, .int 0, .int 0, .int 0, .int 0, .null, .null, .null, .int 0, .int 0, .int 0, .int 0, .int 0, .null, .null, .null]))])[k]? = some (xad Gc k, xce Gc Yc Sc0 k) := by rw [List.getElem?_append_left (by rw [xw_len]; exact hk), xw_get hk]
    have h := hD.1 k 50 _ _ hk2 h50 e
    rw [h] at hk
    exact absurd hk (by decide)
  refine W.widen (k := 51) (n := 6063) (by decide) (by decide) ?_
  refine lv_dup hx hb dL_law_11 rfl ?_
  have hFq : ∀ q, va_A [(q9, .inr (9, [.null, .null, .null, .null, .int 0, .int 0, .int 0, .int 0, .int 0, .int 0, .int 0, .long 0, .int 0, .int 0, .int 0, .int 0, .null, .int 0, .int 0, .int 0, .int 0, .int 0, .null, .null, .null, .int 0, .int 0, .int 0, .int 0, .int 0, .null, .null, .null]))] H.size q → yA s q := va_free (wc := [(q9, .inr (9, [.null, .null, .null, .null, .int 0, .int 0, .int 0, .int 0, .int 0, .int 0, .int 0, .long 0, .int 0, .int 0, .int 0, .int 0, .null, .int 0, .int 0, .int 0, .int 0, .int 0, .null, .null, .null, .int 0, .int 0, .int 0, .int 0, .int 0, .null, .null, .null]))]) hDq hS hA [0] rfl
  refine va_callv (va_runI (As := []) (rest := [.ref q9]) (Ts := xU) ⟨hx, hb, hml, hown, hts⟩ (nX9_init l D cy kv q9 H.size) (cwI 0 hts (xU_goodc (fun _ h => h) oiX9_init.2.2.1) rfl rfl rfl (hts _ oiX9_init.2.1) (hts _ qw1058) (hts _ oiX9_init.1) rfl oiX9_init.2.2.2 ⟨Nat.le_of_ble_eq_true rfl, Nat.le_of_ble_eq_true rfl⟩) ⟨fun a U g mk q => by obtain ⟨q0, q1, qP, qK, qD, qN, qE⟩ := q; exact ⟨q0, q1, qP, va_K.moved (u := U) (U := U.calling g mk a) (Vm.Alike.refl U.vm) qK, qD, xNw.same (u := U) (U := U.calling g mk a) rfl (Vm.Alike.refl U.vm) qN, xE.same (u := U) (U := U.calling g mk a) rfl (Vm.Alike.refl U.vm) qE⟩, fun U hU hW => ⟨rfl, by rw [hU], by rw [hU]; exact hPq, va_K.moved hW.alike hK, hDq.weaken (fun _ _ _ _ => trivial), hNw.warm hW, by rw [hU]; exact (((hE _ _ _).kept hS.2.1).narrow hFq).warm hW⟩⟩ rfl rfl hl.1 rfl (lv_room (Nat.le_of_ble_eq_true rfl)) dL_law_12 ⟨Nat.le_of_ble_eq_true rfl, Nat.le_of_ble_eq_true rfl⟩) hS (fun q _ h => hFq q h) hFq (fun v t H1 locs ht hvm hw hB hz1 hk1 hS => ?_)
  obtain ⟨hP1, hD1⟩ := hB
  rw [ht] at hP1
  obtain ⟨Gm, eGm⟩ : ∃ G : xG, G = (D, cy, xadd q9 v, kv) := ⟨_, rfl⟩
  have hPm : xP Gm Ym Sm1 H1 := by rw [eGm]; exact hP1
  have hDm : va_D (va_A [(q9, .inr (9, [.null, .null, .null, .null, .int 0, .int 0, .int 0, .int 0, .int 0, .int 0, .int 0, .long 0, .int 0, .int 0, .int 0, .int 0, .null, .int 0, .int 0, .int 0, .int 0, .int 0, .null, .null, .null, .int 0, .int 0, .int 0, .int 0, .int 0, .null, .null, .null]))] H.size) (xw Gm Ym Sm1) := by rw [eGm]; exact hD1
  have hKm : va_K Gm.1 vwCl (xt Gm) s := by rw [eGm]; exact hK
  have hEm : xE Gm (yA s) s s.heap := by rw [eGm]; exact hE _ _ _
  have e9 : xad Gm 0 = q9 := by rw [eGm]; rfl
  have hlt : ∀ q, xA Gc Yc q → q < H.size := by
    intro q hq
    obtain ⟨k, hk, rfl⟩ := hq
    exact (hPc k _ (xw_get hk)).lt
  have hnot : ∀ q, xA Gc Yc q → ¬ va_A [(q9, .inr (9, [.null, .null, .null, .null, .int 0, .int 0, .int 0, .int 0, .int 0, .int 0, .int 0, .long 0, .int 0, .int 0, .int 0, .int 0, .null, .int 0, .int 0, .int 0, .int 0, .int 0, .null, .null, .null, .int 0, .int 0, .int 0, .int 0, .int 0, .null, .null, .null]))] H.size q := by
    intro q hq h
    rcases h with ⟨k, e, h⟩ | h
    · cases k with
      | zero => cases h; exact hne _ hq rfl
      | succ k => cases h
    · exact absurd (hlt q hq) (Nat.not_lt.mpr h)
  have hPc : xP Gc Yc Sc0 H1 := hPc.kept (fun q hq h => hk1 q hq (hnot q h))
  have hAm := xA_of hDm
  have Z : yZ p s m meth c b L xs Gc Gm := ⟨hx, hb, hml, hown, hts, hr, hlocks, ⟨hKc, hEc, xJ_of hDc, xA_of hDc⟩, ⟨hKm, hEm, xJ_of hDm, fun q h => hFq q (hAm q h)⟩, fun q h1 h2 => hnot q h1 (hAm q h2), hX, hbl⟩
  generalize H1 = H at hPc hPm hS ⊢
  refine W.widen (k := 62) (n := 12897) (by decide) (by decide) ?_
  rw [← e9]
  refine lv_astore_n (lv' := [(2, .ref (xad Gm 0)), (1, .ref (xad Gc 0)), (0, .ref b)]) hx hb dL_law_15 rfl hl (by decide) rfl (fun ls hl => ?_)
  refine lv_iconst (v := 0) hx hb dL_law_16 (by decide) ?_
  refine lv_istore_n (lv' := [(3, .int 0), (2, .ref (xad Gm 0)), (1, .ref (xad Gc 0)), (0, .ref b)]) hx hb dL_law_17 rfl hl (by decide) rfl (fun ls hl => ?_)
  exact law_loop hL Z hsim (L + 7) 0 0 (Nat.zero_le L) (by omega) nI_0.symm Sc0 Sm1 hrel H locs ls hPc hPm hS (lv_sub hl [3, 2, 1, 0] rfl)

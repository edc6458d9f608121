/-! ROWS OVER THE POOL, second part: rows (arrays), calls, ends -/
theorem xce_i {G : xG} {Y : xY} {S : xS} {o : Nat} (hk : xk Y o = 10) : xce G Y S o = .inl (G.2.1 0, xn Y o, .inl (S.1 o)) := by unfold xce; rw [hk]; rfl
theorem xce_l {G : xG} {Y : xY} {S : xS} {o : Nat} (hk : xk Y o = 11) : xce G Y S o = .inl (G.2.1 1, xn Y o, .inr (.inl (S.2.1 o))) := by unfold xce; rw [hk]; rfl
theorem xce_z {G : xG} {Y : xY} {S : xS} {o : Nat} (hk : xk Y o = 12) : xce G Y S o = .inl (G.2.1 2, xn Y o, .inl (S.1 o)) := by unfold xce; rw [hk]; rfl
theorem xce_q {G : xG} {Y : xY} {S : xS} {o : Nat} (hk : xk Y o = 13) : xce G Y S o = .inl (G.2.1 3, xn Y o, .inr (.inr (.inr (.inr (fun j => (S.2.2 o j).map (xad G)))))) := by unfold xce; rw [hk]; rfl
theorem x2_upd {f : Nat → Nat → Int32} {c k : Nat} {v : Int32} : x2 f c k v c = upd (f c) k v := by
  funext j
  unfold x2 upd
  rw [if_pos rfl]
theorem x2_updL {f : Nat → Nat → Int64} {c k : Nat} {v : Int64} : x2 f c k v c = vp_updL (f c) k v := by
  funext j
  unfold x2 vp_updL
  rw [if_pos rfl]
/-- what a called method needs of the tables: an instance method, a static one -/
def xokV (C : String) (y : MethodName) (code : ByteArray) (nl : Nat) (rt : Option FieldType) (n : Nat) : Prop :=
  Cond.instanceMethod y ∈ xU ∧ Cond.selects C y y ∈ xU ∧ Cond.initialized C ∈ xU ∧ Cond.code y code nl rt ∈ xU ∧ (y.cls = C ∧ y.cls ≠ "java/lang/invoke/MethodHandle" ∧ y.cls ≠ "java/lang/invoke/VarHandle" ∧ (parseMethodDescriptor y.desc).map (fun d => d.parameters.length) = some n)
def xokS (y : MethodName) (code : ByteArray) (nl : Nat) (rt : Option FieldType) (n : Nat) : Prop :=
  Cond.static y ∈ xU ∧ Cond.initialized y.cls ∈ xU ∧ Cond.code y code nl rt ∈ xU ∧ (y.cls ≠ "java/lang/invoke/MethodHandle" ∧ y.cls ≠ "java/lang/invoke/VarHandle" ∧ (parseMethodDescriptor y.desc).map (fun d => d.parameters.length) = some n)
theorem xokV_good {own C : String} {index : Nat} {y : MethodName} {code : ByteArray} {nl n : Nat} {rt : Option FieldType} (hl : Cond.methodLink own index y ∈ xU) (h : xokV C y code nl rt n) : GoodIn xU (wsV own index C y (.code y code nl rt :: xU)) := by
  have hg := xU_goodc (big := xU) (fun _ h => h) h.2.2.2.1
  intro w hw
  unfold wsV at hw
  rcases List.mem_append.mp hw with h1 | h1
  · have : w ∈ xU := by
      simp only [List.mem_cons, List.not_mem_nil, or_false] at h1
      rcases h1 with rfl | rfl | rfl | rfl
      · exact hl
      · exact h.1
      · exact h.2.1
      · exact h.2.2.1
    exact xU_good (fun _ h => h) w this
  · exact hg w h1
theorem xokS_good {own : String} {index : Nat} {y : MethodName} {code : ByteArray} {nl n : Nat} {rt : Option FieldType} (hl : Cond.methodLink own index y ∈ xU) (h : xokS y code nl rt n) : GoodIn xU (va_wsS own index y (.code y code nl rt :: xU)) := by
  have hg := xU_goodc (big := xU) (fun _ h => h) h.2.2.1
  intro w hw
  unfold va_wsS at hw
  rcases List.mem_append.mp hw with h1 | h1
  · have : w ∈ xU := by
      simp only [List.mem_cons, List.not_mem_nil, or_false] at h1
      rcases h1 with rfl | rfl | rfl
      · exact hl
      · exact h.1
      · exact h.2.1
    exact xU_good (fun _ h => h) w this
  · exact hg w h1
section XROWS2
variable {p : Program} {l : Launch} {e : Env} {R : Room} {s : State} {m : MethodId} {args : Array Value} {below : List Frame} {meth : Method} {c : Code} {H : Heap} {locs : List Loc} {Q : State → Prop}
variable {cc : ByteArray} {pc nL : Nat} {ls : Array Slot} {rest st0 : List Value} {own : String} {ret : Option FieldType} {G : xG} {Y : xY} {S S' : xS}
theorem x_iald (X : xX p s m args meth c cc nL ret own G Y) (hP : xP G Y S H) {o : Nat} (hk : xk Y o = 10) {i v : Int32} (hv : aI Y S o i = some v) (hdg : decode cc pc = .ok (.iaload, 1))
    (kk : W p l e R s m args below meth c H locs 0 0 Q (F0 m (pc + 1) ls (.int v :: rest))) : W p l e R s m args below meth c H locs 0 0 Q (F0 m pc ls (.int i :: .ref (xad G o) :: rest)) := by
  obtain ⟨hx, hb, hml, hown, hts, hr, hlk, hK, hE, hJ⟩ := X
  obtain ⟨h1, h2⟩ := aI_v hv
  subst h2
  exact va_iald (f := S.1 o) hx hb hK hP o 0 (by rw [xw_get (xk_lt hk (by decide)), xce_i hk]) rfl h1 hdg kk
theorem x_zald (X : xX p s m args meth c cc nL ret own G Y) (hP : xP G Y S H) {o : Nat} (hk : xk Y o = 12) {i v : Int32} (hv : aI Y S o i = some v) (hdg : decode cc pc = .ok (.baload, 1))
    (kk : W p l e R s m args below meth c H locs 0 0 Q (F0 m (pc + 1) ls (.int v :: rest))) : W p l e R s m args below meth c H locs 0 0 Q (F0 m pc ls (.int i :: .ref (xad G o) :: rest)) := by
  obtain ⟨hx, hb, hml, hown, hts, hr, hlk, hK, hE, hJ⟩ := X
  obtain ⟨h1, h2⟩ := aI_v hv
  subst h2
  exact va_zald (f := S.1 o) hx hb hK hP o 2 (by rw [xw_get (xk_lt hk (by decide)), xce_z hk]) rfl h1 hdg kk
theorem x_lald (X : xX p s m args meth c cc nL ret own G Y) (hP : xP G Y S H) {o : Nat} (hk : xk Y o = 11) {i : Int32} {v : Int64} (hv : aJ Y S o i = some v) (hdg : decode cc pc = .ok (.laload, 1))
    (kk : W p l e R s m args below meth c H locs 0 0 Q (F0 m (pc + 1) ls (.long v :: rest))) : W p l e R s m args below meth c H locs 0 0 Q (F0 m pc ls (.int i :: .ref (xad G o) :: rest)) := by
  obtain ⟨hx, hb, hml, hown, hts, hr, hlk, hK, hE, hJ⟩ := X
  obtain ⟨h1, h2⟩ := aJ_v hv
  subst h2
  exact va_lald (f := S.2.1 o) hx hb hK hP o 1 (by rw [xw_get (xk_lt hk (by decide)), xce_l hk]) rfl h1 hdg kk
theorem x_aald (X : xX p s m args meth c cc nL ret own G Y) (hP : xP G Y S H) {o : Nat} (hk : xk Y o = 13) {i : Int32} {v : Option Nat} (hv : aR Y S o i = some v) (hdg : decode cc pc = .ok (.aaload, 1))
    (kk : W p l e R s m args below meth c H locs 0 0 Q (F0 m (pc + 1) ls (va_rf (v.map (xad G)) :: rest))) : W p l e R s m args below meth c H locs 0 0 Q (F0 m pc ls (.int i :: .ref (xad G o) :: rest)) := by
  obtain ⟨hx, hb, hml, hown, hts, hr, hlk, hK, hE, hJ⟩ := X
  obtain ⟨h1, h2⟩ := aR_v hv
  subst h2
  exact va_aldq (f := fun j => (S.2.2 o j).map (xad G)) hx hb hK hP o 3 (by rw [xw_get (xk_lt hk (by decide)), xce_q hk]) rfl h1 hdg kk
theorem x_alen (X : xX p s m args meth c cc nL ret own G Y) (hP : xP G Y S H) {o : Nat} (hk : xk Y o = 10 ∨ xk Y o = 11) {v : Int32} (hv : Int32.ofNat (xn Y o) = v) (hdg : decode cc pc = .ok (.arraylength, 1))
    (kk : W p l e R s m args below meth c H locs 0 0 Q (F0 m (pc + 1) ls (.int v :: rest))) : W p l e R s m args below meth c H locs 0 0 Q (F0 m pc ls (.ref (xad G o) :: rest)) := by
  obtain ⟨hx, hb, hml, hown, hts, hr, hlk, hK, hE, hJ⟩ := X
  rcases hk with hk | hk
  · exact va_alen hx hb hK hP o 0 (by rw [xw_get (xk_lt hk (by decide)), xce_i hk]) rfl hv hdg kk
  · exact va_alen hx hb hK hP o 1 (by rw [xw_get (xk_lt hk (by decide)), xce_l hk]) rfl hv hdg kk
theorem x_iast (X : xX p s m args meth c cc nL ret own G Y) (hP : xP G Y S H) (hS : va_S (xA G Y) s.heap H locs) {o : Nat} (hk : xk Y o = 10) {i v : Int32} (hv : sI Y S o i v = some S') (hdg : decode cc pc = .ok (.iastore, 1))
    (kk : ∀ (H : Heap) (locs : List Loc), xP G Y S' H → va_S (xA G Y) s.heap H locs → W p l e R s m args below meth c H locs 0 0 Q (F0 m (pc + 1) ls rest)) : W p l e R s m args below meth c H locs 0 0 Q (F0 m pc ls (.int v :: .int i :: .ref (xad G o) :: rest)) := by
  obtain ⟨hx, hb, hml, hown, hts, hr, hlk, hK, hE, hJ⟩ := X
  obtain ⟨h1, h2⟩ := sI_v hv
  subst h2
  refine va_iast hx hb hK hP (xw_D hJ) hS o 0 (by rw [xw_get (xk_lt hk (by decide)), xce_i hk]) rfl h1 hdg (fun H1 locs1 g1 _ g3 => kk H1 locs1 ?_ g3)
  rw [xw_set (S' := pI S o i.toNatClampNeg v) (xk_lt hk (by decide)) ?_ (fun d h => xce_pI h)] at g1
  · exact g1
  · rw [xce_i hk]
    unfold pI
    dsimp only
    rw [x2_upd]
theorem x_zast (X : xX p s m args meth c cc nL ret own G Y) (hP : xP G Y S H) (hS : va_S (xA G Y) s.heap H locs) {o : Nat} (hk : xk Y o = 12) {i v : Int32} (hz : v = 0 ∨ v = 1) (hv : sI Y S o i v = some S') (hdg : decode cc pc = .ok (.bastore, 1))
    (kk : ∀ (H : Heap) (locs : List Loc), xP G Y S' H → va_S (xA G Y) s.heap H locs → W p l e R s m args below meth c H locs 0 0 Q (F0 m (pc + 1) ls rest)) : W p l e R s m args below meth c H locs 0 0 Q (F0 m pc ls (.int v :: .int i :: .ref (xad G o) :: rest)) := by
  obtain ⟨hx, hb, hml, hown, hts, hr, hlk, hK, hE, hJ⟩ := X
  obtain ⟨h1, h2⟩ := sI_v hv
  subst h2
  have hvn : vp_nar .boolean v = v := by rcases hz with rfl | rfl <;> decide +kernel
  refine va_zast hx hb hK hP (xw_D hJ) hS o 2 (by rw [xw_get (xk_lt hk (by decide)), xce_z hk]) rfl h1 hdg (fun H1 locs1 g1 _ g3 => kk H1 locs1 ?_ g3)
  rw [hvn, xw_set (S' := pI S o i.toNatClampNeg v) (xk_lt hk (by decide)) ?_ (fun d h => xce_pI h)] at g1
  · exact g1
  · rw [xce_z hk]
    unfold pI
    dsimp only
    rw [x2_upd]
theorem x_last (X : xX p s m args meth c cc nL ret own G Y) (hP : xP G Y S H) (hS : va_S (xA G Y) s.heap H locs) {o : Nat} (hk : xk Y o = 11) {i : Int32} {v : Int64} (hv : sJ Y S o i v = some S') (hdg : decode cc pc = .ok (.lastore, 1))
    (kk : ∀ (H : Heap) (locs : List Loc), xP G Y S' H → va_S (xA G Y) s.heap H locs → W p l e R s m args below meth c H locs 0 0 Q (F0 m (pc + 1) ls rest)) : W p l e R s m args below meth c H locs 0 0 Q (F0 m pc ls (.long v :: .int i :: .ref (xad G o) :: rest)) := by
  obtain ⟨hx, hb, hml, hown, hts, hr, hlk, hK, hE, hJ⟩ := X
  obtain ⟨h1, h2⟩ := sJ_v hv
  subst h2
  refine va_last hx hb hK hP (xw_D hJ) hS o 1 (by rw [xw_get (xk_lt hk (by decide)), xce_l hk]) rfl h1 hdg (fun H1 locs1 g1 _ g3 => kk H1 locs1 ?_ g3)
  rw [xw_set (S' := pJ S o i.toNatClampNeg v) (xk_lt hk (by decide)) ?_ (fun d h => xce_pJ h)] at g1
  · exact g1
  · rw [xce_l hk]
    unfold pJ
    dsimp only
    rw [x2_updL]
theorem x_recv (X : xX p s m args meth c cc nL ret own G Y) (hP : xP G Y S H) {o ci : Nat} {C : String} {T : u_T} {N : Nat} (hk : xk Y o = ci) (hci : ci < 10) (hc : vwCl[ci]? = some (C, T, N)) : ∃ cell : Cell, H[xad G o]? = some cell ∧ cell.vm.isStatics = false ∧ s.vm.findClass C = some cell.cls := by
  obtain ⟨hx, hb, hml, hown, hts, hr, hlk, hK, hE, hJ⟩ := X
  have hce : xce G Y S o = .inr (ci, xfs (xad G) S ci o) := by unfold xce; rw [hk, if_pos hci]
  exact va_recv (q := (C, T, N)) hK hP hc (q0 := o) (ci := ci) (by rw [xw_get (xk_lt hk (by omega)), hce])
variable {y : MethodName} {code : ByteArray} {nl n f L index : Nat} {rt : Option FieldType} {As : List Value}
theorem x_runV {Qc : Array Value → State → Outcome → State → Prop} (X : xX p s m args meth c cc nL ret own G Y) {b ci : Nat} {C : String} {T : u_T} {N : Nat} (hM : xM l y code nl rt f L G Y (.ref (xad G b) :: As) S Qc) (hl : Cond.methodLink own index y ∈ xU) (hy : xokV C y code nl rt n) (hR : f + 1 ≤ R.frames ∧ 8 + (nl + 11) + L ≤ R.locals) (hk : xk Y b = ci) (hci : ci < 10) (hc : vwCl[ci]? = some (C, T, N)) (hP : xP G Y S H) (hS : va_S (xA G Y) s.heap H locs) (hn : As.length = n) (hsize : ls.size = nL) (hst : st0 = As.reverse ++ .ref (xad G b) :: rest) (hW : (rest.map fun v => v.category).sum ≤ 8) (hdg : decode cc pc = .ok (.invokevirtual index, 3)) :
    va_Run p l e R s m args below meth c H locs 0 0 0 0 (F0 m pc ls st0) rest (Qc (Value.ref (xad G b) :: As).toArray) (xA G Y) := by
  obtain ⟨hx, hb, hml, hown, hts, hr, hlk, hK, hE, hJ⟩ := id X
  refine va_runV (C := C) (bytes := code) (maxL := nl) (ret := rt) (n := n) (nL := nL) (Ts := xU) (own := own) (index := index) ⟨hx, hb, hml, hown, hts⟩ hM (cwV n hts (xokV_good hl hy) rfl rfl rfl hy.2.2.2.2 hR) ⟨xPc_blind _ _ _ _, x_recv X hP hk hci hc, fun U hU hWm => ⟨rfl, by rw [hU]; exact hP, va_K.moved hWm.alike hK, ?_, hJ⟩⟩ rfl hn hsize hst (lv_room hW) hdg ⟨Nat.zero_le _, Nat.zero_le _⟩
  rw [hU]
  exact (hE.warm hWm).kept hS.2.1
theorem x_runS {Qc : Array Value → State → Outcome → State → Prop} (X : xX p s m args meth c cc nL ret own G Y) (hM : xM l y code nl rt f L G Y As S Qc) (hl : Cond.methodLink own index y ∈ xU) (hy : xokS y code nl rt n) (hR : f + 1 ≤ R.frames ∧ 8 + (nl + 11) + L ≤ R.locals) (hP : xP G Y S H) (hS : va_S (xA G Y) s.heap H locs) (hn : As.length = n) (hsize : ls.size = nL) (hst : st0 = As.reverse ++ rest) (hW : (rest.map fun v => v.category).sum ≤ 8) (hdg : decode cc pc = .ok (.invokestatic index, 3)) :
    va_Run p l e R s m args below meth c H locs 0 0 0 0 (F0 m pc ls st0) rest (Qc As.toArray) (xA G Y) := by
  obtain ⟨hx, hb, hml, hown, hts, hr, hlk, hK, hE, hJ⟩ := id X
  refine va_runS (bytes := code) (maxL := nl) (ret := rt) (n := n) (nL := nL) (Ts := xU) (own := own) (index := index) ⟨hx, hb, hml, hown, hts⟩ hM (va_cwS n hts (xokS_good hl hy) rfl rfl rfl hy.2.2.2 hR) ⟨xPc_blind _ _ _ _, fun U hU hWm => ⟨rfl, by rw [hU]; exact hP, va_K.moved hWm.alike hK, ?_, hJ⟩⟩ rfl hn hsize hst (lv_room hW) hdg ⟨Nat.zero_le _, Nat.zero_le _⟩
  rw [hU]
  exact (hE.warm hWm).kept hS.2.1
theorem x_goi {a : Array Value} {r : Int32} (hr : va_Run p l e R s m args below meth c H locs 0 0 0 0 (F0 m pc ls st0) rest (xQi G Y r S' a) (xA G Y)) (hS : va_S (xA G Y) s.heap H locs)
    (kk : ∀ (H : Heap) (locs : List Loc), xP G Y S' H → va_S (xA G Y) s.heap H locs → W p l e R s m args below meth c H locs 0 0 Q (F0 m (pc + 3) ls (.int r :: rest))) : W p l e R s m args below meth c H locs 0 0 Q (F0 m pc ls st0) := by
  refine va_calli hr hS (fun q _ h => h) (fun q h => h) (fun r' u t H1 locs1 ht hvm hw hB hz1 hk1 hS1 => ?_)
  subst hw
  exact kk H1 locs1 (by rw [← ht]; exact hB) hS1
theorem x_gol {a : Array Value} {r : Int64} (hr : va_Run p l e R s m args below meth c H locs 0 0 0 0 (F0 m pc ls st0) rest (xQl G Y r S' a) (xA G Y)) (hS : va_S (xA G Y) s.heap H locs)
    (kk : ∀ (H : Heap) (locs : List Loc), xP G Y S' H → va_S (xA G Y) s.heap H locs → W p l e R s m args below meth c H locs 0 0 Q (F0 m (pc + 3) ls (.long r :: rest))) : W p l e R s m args below meth c H locs 0 0 Q (F0 m pc ls st0) := by
  refine va_calll hr hS (fun q _ h => h) (fun q h => h) (fun r' u t H1 locs1 ht hvm hw hB hz1 hk1 hS1 => ?_)
  subst hw
  exact kk H1 locs1 (by rw [← ht]; exact hB) hS1
theorem x_gov {a : Array Value} (hr : va_Run p l e R s m args below meth c H locs 0 0 0 0 (F0 m pc ls st0) rest (xQv G Y S' a) (xA G Y)) (hS : va_S (xA G Y) s.heap H locs)
    (kk : ∀ (H : Heap) (locs : List Loc), xP G Y S' H → va_S (xA G Y) s.heap H locs → W p l e R s m args below meth c H locs 0 0 Q (F0 m (pc + 3) ls rest)) : W p l e R s m args below meth c H locs 0 0 Q (F0 m pc ls st0) := by
  refine va_callv hr hS (fun q _ h => h) (fun q h => h) (fun u t H1 locs1 ht hvm hw hB hz1 hk1 hS1 => ?_)
  exact kk H1 locs1 (by rw [← ht]; exact hB) hS1
theorem x_goq {a : Array Value} {r : Option Nat} (hr : va_Run p l e R s m args below meth c H locs 0 0 0 0 (F0 m pc ls st0) rest (xQq G Y r S' a) (xA G Y)) (hS : va_S (xA G Y) s.heap H locs)
    (kk : ∀ (H : Heap) (locs : List Loc), xP G Y S' H → va_S (xA G Y) s.heap H locs → W p l e R s m args below meth c H locs 0 0 Q (F0 m (pc + 3) ls (va_rf (r.map (xad G)) :: rest))) : W p l e R s m args below meth c H locs 0 0 Q (F0 m pc ls st0) := by
  refine va_callq hr hS (fun q _ h => h) (fun q h => h) (fun r' u t H1 locs1 ht hvm hw hB hz1 hk1 hS1 => ?_)
  subst hw
  exact kk H1 locs1 (by rw [← ht]; exact hB) hS1
theorem x_iret (X : xX p s m args meth c cc nL (some .int) own G Y) (hP : xP G Y S H) (hS : va_S (xA G Y) s.heap H locs) {v r : Int32} (hM : some (v, S) = some (r, S')) (hdg : decode cc pc = .ok (.ireturn, 1)) : W p l e R s m args below meth c H locs 0 0 (MQ below (xQi G Y r S') args s 0 0 (xA G Y)) (F0 m pc ls [.int v]) := by
  obtain ⟨hx, hb, hml, hown, hts, hr, hlk, hK, hE, hJ⟩ := X
  cases hM
  exact W.iret hx hb hr (fun t ht hW => ⟨⟨v, (), rfl, rfl, by show xP G Y S t.heap; rw [ht]; exact hP⟩, hS.F ht⟩) hS.2.2 hdg hlk
theorem x_zret (X : xX p s m args meth c cc nL (some .boolean) own G Y) (hP : xP G Y S H) (hS : va_S (xA G Y) s.heap H locs) {v r : Int32} (hz : v = 0 ∨ v = 1) (hM : some (v, S) = some (r, S')) (hdg : decode cc pc = .ok (.ireturn, 1)) : W p l e R s m args below meth c H locs 0 0 (MQ below (xQi G Y r S') args s 0 0 (xA G Y)) (F0 m pc ls [.int v]) := by
  obtain ⟨hx, hb, hml, hown, hts, hr, hlk, hK, hE, hJ⟩ := X
  cases hM
  exact W.zret hx hb hr (by rcases hz with rfl | rfl <;> decide +kernel) (fun t ht hW => ⟨⟨v, (), rfl, rfl, by show xP G Y S t.heap; rw [ht]; exact hP⟩, hS.F ht⟩) hS.2.2 hdg hlk
theorem x_lret (X : xX p s m args meth c cc nL (some .long) own G Y) (hP : xP G Y S H) (hS : va_S (xA G Y) s.heap H locs) {v r : Int64} (hM : some (v, S) = some (r, S')) (hdg : decode cc pc = .ok (.lreturn, 1)) : W p l e R s m args below meth c H locs 0 0 (MQ below (xQl G Y r S') args s 0 0 (xA G Y)) (F0 m pc ls [.long v]) := by
  obtain ⟨hx, hb, hml, hown, hts, hr, hlk, hK, hE, hJ⟩ := X
  cases hM
  exact W.lret hx hb hr (fun t ht hW => ⟨⟨v, (), rfl, rfl, by show xP G Y S t.heap; rw [ht]; exact hP⟩, hS.F ht⟩) hS.2.2 hdg hlk
theorem x_vret (X : xX p s m args meth c cc nL none own G Y) (hP : xP G Y S H) (hS : va_S (xA G Y) s.heap H locs) (hM : some S = some S') (hdg : decode cc pc = .ok (.return_, 1)) : W p l e R s m args below meth c H locs 0 0 (MQ below (xQv G Y S') args s 0 0 (xA G Y)) (F0 m pc ls []) := by
  obtain ⟨hx, hb, hml, hown, hts, hr, hlk, hK, hE, hJ⟩ := X
  cases hM
  exact W.vret hx hb hr (fun t ht hW => ⟨⟨(), rfl, trivial, by show xP G Y S t.heap; rw [ht]; exact hP⟩, hS.F ht⟩) hS.2.2 hdg hlk
theorem x_aret {rt : FieldType} (X : xX p s m args meth c cc nL (some rt) own G Y) (hrt : (∃ n, rt = .object n) ∨ ∃ t, rt = .array t) (hP : xP G Y S H) (hS : va_S (xA G Y) s.heap H locs) {v r : Option Nat} (hM : some (v, S) = some (r, S')) (hdg : decode cc pc = .ok (.areturn, 1)) : W p l e R s m args below meth c H locs 0 0 (MQ below (xQq G Y r S') args s 0 0 (xA G Y)) (F0 m pc ls [va_rf (v.map (xad G))]) := by
  obtain ⟨hx, hb, hml, hown, hts, hr, hlk, hK, hE, hJ⟩ := X
  cases hM
  exact W.aret hx hb hr hrt (by cases v with
    | none => exact Or.inl rfl
    | some a => exact Or.inr ⟨_, rfl⟩) (fun t ht hW => ⟨⟨v.map (xad G), (), rfl, rfl, by show xP G Y S t.heap; rw [ht]; exact hP⟩, hS.F ht⟩) hS.2.2 hdg hlk
theorem x_copyi (X : xX p s m args meth c cc nL ret own G Y) (hP : xP G Y S H) (hS : va_S (xA G Y) s.heap H locs) {a b : Nat} (hka : xk Y a = 10) (hkb : xk Y b = 10) {sp dp n : Int32} (hv : cpI Y S a sp b dp n = some S') (hlink : Cond.methodLink own index arraycopyName ∈ xU) (hnat : Cond.native arraycopyName ∈ xU) (hstat : Cond.static arraycopyName ∈ xU) (hini : Cond.initialized "java/lang/System" ∈ xU) (hsize : ls.size = nL) (hframes : 1 ≤ R.frames) (hlocals : (rest.map fun v => v.category).sum + (nativeFrameWords "java/lang/System" "arraycopy" 5 + 11) ≤ R.locals) (hdg : decode cc pc = .ok (.invokestatic index, 3))
    (kk : ∀ (H : Heap) (locs : List Loc), xP G Y S' H → va_S (xA G Y) s.heap H locs → W p l e R s m args below meth c H locs 0 0 Q (F0 m (pc + 3) ls rest)) : W p l e R s m args below meth c H locs 0 0 Q (F0 m pc ls (.int n :: .int dp :: .ref (xad G b) :: .int sp :: .ref (xad G a) :: rest)) := by
  obtain ⟨hx, hb, hml, hown, hts, hr, hlk, hK, hE, hJ⟩ := X
  unfold cpI at hv
  split at hv
  · cases hv
  next h0 =>
  cases hv
  simp only [not_or] at h0
  obtain ⟨h1, h2, h3, h4, h5⟩ := h0
  refine va_copyi hx hb (hml.trans hsize.symm) hown (hts _ hlink) (hts _ hnat) (hts _ hstat) (hts _ hini) hK hP (xw_D hJ) hS a b 0 0 (by rw [xw_get (xk_lt hka (by decide)), xce_i hka]) (by rw [xw_get (xk_lt hkb (by decide)), xce_i hkb]) rfl rfl rfl h1 h2 h3 (by omega) (by omega) (fun _ _ => rfl) hframes hlocals hdg (fun H1 locs1 g1 _ g3 => kk H1 locs1 ?_ g3)
  rw [xw_set (S' := (fun c => if c = b then va_cpy (S.1 a) (S.1 b) sp.toNatClampNeg dp.toNatClampNeg n.toNatClampNeg else S.1 c, S.2)) (xk_lt hkb (by decide)) ?_ (fun d h => ?_)] at g1
  · exact g1
  · rw [xce_i hkb]
    dsimp only
    rw [if_pos rfl]
  · have e1 : (fun c => if c = b then va_cpy (S.1 a) (S.1 b) sp.toNatClampNeg dp.toNatClampNeg n.toNatClampNeg else S.1 c) d = S.1 d := if_neg h
    unfold xce xfs
    simp only [xfv, e1]
end XROWS2

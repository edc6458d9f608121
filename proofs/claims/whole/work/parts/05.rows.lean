/-! ROWS OVER THE POOL: an instruction each; the machine, the tables and what is fixed come as ONE word, xX -/
def xr (f L : Nat) : Room := { frames := f, cells := 0, slots := 0, locals := L }
/-- the two String constants of CakeCalendar$Tokens: their lengths, their bytes -/
def xtl : List Nat := [89, 13]
def xtb : List (List Int32) := [[115, 108, 105, 99, 101, 115, 32, 101, 97, 116, 115, 32, 115, 101, 97, 116, 32, 104, 105, 100, 101, 32, 103, 105, 118, 101, 32, 112, 97, 115, 115, 32, 97, 116, 32, 105, 102, 32, 111, 114, 32, 97, 110, 100, 32, 110, 111, 116, 32, 101, 110, 100, 32, 100, 97, 121, 32, 116, 97, 98, 108, 101, 32, 100, 97, 119, 110, 32, 115, 105, 115, 116, 101, 114, 32, 97, 112, 112, 101, 116, 105, 116, 101, 32, 108, 101, 102, 116, 32], [60, 62, 61, 35, 43, 45, 42, 47, 40, 41, 59, 63, 58]]
/-- the two String constants, the statics that String looks at: none of the pool's cells -/
def xE (G : xG) (A : Nat → Prop) (U : State) (H : Heap) : Prop :=
  vk_R "CakeCalendar$Tokens" 58 "slices eats seat hide give pass at if or and not end day table dawn sister appetite left " (G.2.2.2.1 0) U ∧ vk_R "CakeCalendar$Tokens" 82 "<>=#+-*/();?:" (G.2.2.2.1 1) U ∧
  vk_S 2 xtl xtb G.2.2.2.1 G.2.2.2.2 A U H ∧ va_Z "java/lang/String" "COMPACT_STRINGS" "Z" (.int 1) A U H ∧ va_Zq "jdk/internal/util/Preconditions" "SIOOBE_FORMATTER" "Ljava/util/function/BiFunction;" A U H
theorem xE.warm {G : xG} {A : Nat → Prop} {s U : State} {H : Heap} (hW : s.WarmedH U.vm) (h : xE G A s H) : xE G A U H := ⟨h.1.warm hW, h.2.1.warm hW, h.2.2.1.moved hW.alike, h.2.2.2.1.moved hW.alike, h.2.2.2.2.moved hW.alike⟩
theorem xE.kept {G : xG} {A : Nat → Prop} {U : State} {H H1 : Heap} (h : xE G A U H) (hq : ∀ a : Nat, a < H.size → ¬ A a → H1[a]? = H[a]?) : xE G A U H1 := ⟨h.1, h.2.1, h.2.2.1.kept hq, h.2.2.2.1.kept hq, h.2.2.2.2.kept hq⟩
theorem xE.same {G : xG} {A : Nat → Prop} {u U : State} {H : Heap} (hv : U.vm = u.vm) (ha : u.vm.Alike U.vm) (h : xE G A u H) : xE G A U H := ⟨h.1.same hv, h.2.1.same hv, h.2.2.1.moved ha, h.2.2.2.1.moved ha, h.2.2.2.2.moved ha⟩
def xB (G : xG) (Y : xY) (S : xS) (U : State) : Prop := xP G Y S U.heap ∧ va_K G.1 vwCl (xt G) U ∧ xE G (xA G Y) U U.heap ∧ xJ G Y
def xPc (av : List Value) (G : xG) (Y : xY) (S : xS) : Array Value → State → Prop := va_Pc av (fun U => xB G Y S U)
def xQi (G : xG) (Y : xY) (r : Int32) (S : xS) : Array Value → State → Outcome → State → Prop := va_Qi (S := Unit) (fun r' _ => r' = r) (fun _ t => xP G Y S t.heap) (xA G Y)
def xQl (G : xG) (Y : xY) (r : Int64) (S : xS) : Array Value → State → Outcome → State → Prop := va_Ql (S := Unit) (fun r' _ => r' = r) (fun _ t => xP G Y S t.heap) (xA G Y)
def xQv (G : xG) (Y : xY) (S : xS) : Array Value → State → Outcome → State → Prop := va_Qv (S := Unit) (fun _ => True) (fun _ t => xP G Y S t.heap) (xA G Y)
def xQq (G : xG) (Y : xY) (r : Option Nat) (S : xS) : Array Value → State → Outcome → State → Prop := va_Qq (S := Unit) (fun r' _ => r' = r.map (xad G)) (fun _ t => xP G Y S t.heap) (xA G Y)
/-- a method's contract over the pool -/
def xM (l : Launch) (y : MethodName) (code : ByteArray) (nl : Nat) (rt : Option FieldType) (f L : Nat) (G : xG) (Y : xY) (av : List Value) (S : xS) (Qc : Array Value → State → Outcome → State → Prop) : Prop :=
  Met l y (.code y code nl rt :: xU) (xr f L) (xPc av G Y S) Qc 0 0 (xA G Y)
theorem xPc_blind (av : List Value) (G : xG) (Y : xY) (S : xS) : FrameBlind (xPc av G Y S) := by
  intro a U g mk h
  obtain ⟨h0, h1, h2, h3, h4⟩ := h
  exact ⟨h0, h1, va_K.moved (u := U) (U := U.calling g mk a) (Vm.Alike.refl U.vm) h2, xE.same (u := U) (U := U.calling g mk a) rfl (Vm.Alike.refl U.vm) h3, h4⟩
/-- what holds all through a method's body -/
def xX (p : Program) (s : State) (m : MethodId) (args : Array Value) (meth : Method) (c : Code) (cc : ByteArray) (nL : Nat) (ret : Option FieldType) (own : String) (G : xG) (Y : xY) : Prop :=
  p.tables.exec = Jvm.exec ∧ c.code = cc ∧ c.maxLocals = nL ∧ s.vm.findClass own = some m.cls ∧ (∀ w ∈ xU, w.before args s = true) ∧ meth.sig.returnType = ret ∧ meth.locks = false ∧ va_K G.1 vwCl (xt G) s ∧ xE G (xA G Y) s s.heap ∧ xJ G Y
theorem x_start {l : Launch} {y : MethodName} {code : ByteArray} {nl : Nat} {rt : Option FieldType} {f L : Nat} {G : xG} {Y : xY} {av : List Value} {S : xS} {Qc : Array Value → State → Outcome → State → Prop} {own : String} (hy : plainName y.cls = true) (hcl : y.cls = own) (hn : (lg_sl av).length ≤ nl)
    (body : ∀ (p : Program) (e : Env) (s : State) (m : MethodId) (below : List Frame) (meth : Method) (c : Code) (ls : Array Slot), xX p s m av.toArray meth c code nl rt own G Y → lv_has ls nl (lv_args 0 av) → xP G Y S s.heap → va_S (xA G Y) s.heap s.heap [] → W p l e (xr f L) s m av.toArray below meth c s.heap [] 0 0 (MQ below Qc av.toArray s 0 0 (xA G Y)) (F0 m 0 ls [])) : xM l y code nl rt f L G Y av S Qc := by
  refine Met.ofW (cc := code) (maxL := nl) (ret := rt) hy rfl ?_
  intro p e s m args below meth c s₁ B hml hv
  obtain ⟨rfl, hP, hK, hE, hJ⟩ := hv
  have hts := atoms_spec (ws := .code y code nl rt :: xU) B.pre
  have hown : s.vm.findClass y.cls = some m.cls := findClass_of_methodNamed B.named
  rw [hcl] at hown
  rw [lg_entry_eq]
  exact body p e s m below meth c _ ⟨B.exec, B.bytes, hml, hown, fun w h => hts w (List.mem_cons_of_mem _ h), B.returns, B.notSynchronized, hK, hE, hJ⟩ (lv_entry av hn) hP va_S.rf
section XROWS
variable {p : Program} {l : Launch} {e : Env} {R : Room} {s : State} {m : MethodId} {args : Array Value} {below : List Frame} {meth : Method} {c : Code} {H : Heap} {locs : List Loc} {Q : State → Prop}
variable {cc : ByteArray} {pc nL : Nat} {ls : Array Slot} {rest : List Value} {own : String} {ret : Option FieldType} {G : xG} {Y : xY} {S S' : xS}
theorem x_topi {v x : Int32} {cells slots : Nat} (h : v = x) (k : W p l e R s m args below meth c H locs cells slots Q (F0 m pc ls (.int v :: rest))) : W p l e R s m args below meth c H locs cells slots Q (F0 m pc ls (.int x :: rest)) := h ▸ k
theorem x_topl {v x : Int64} {cells slots : Nat} (h : v = x) (k : W p l e R s m args below meth c H locs cells slots Q (F0 m pc ls (.long v :: rest))) : W p l e R s m args below meth c H locs cells slots Q (F0 m pc ls (.long x :: rest)) := h ▸ k
/-- getfield of an object of the pool: any kind of value -/
theorem x_get (X : xX p s m args meth c cc nL ret own G Y) (hP : xP G Y S H) {o ci k t index : Nat} {C ref name desc : String} {T : u_T} {N : Nat} (hk : xk Y o = ci) (hci : ci < 10) (hc : vwCl[ci]? = some (C, T, N)) (hin : ∀ w ∈ u_ws C T N, w ∈ xU) (hkN : k < N) (hT : T k = (ref, name, desc, (T k).2.2.2)) (hft : (xfl ci)[k]? = some t) (hlink : Cond.fieldLink own index ref name desc ∈ xU) (hdg : decode cc pc = .ok (.getfield index, 3))
    (kk : W p l e R s m args below meth c H locs 0 0 Q (F0 m (pc + 3) ls (xfv (xad G) S t o k :: rest))) : W p l e R s m args below meth c H locs 0 0 Q (F0 m pc ls (.ref (xad G o) :: rest)) := by
  obtain ⟨hx, hb, hml, hown, hts, hr, hlk, hK, hE, hJ⟩ := X
  have ho : o < Y.length := xk_lt hk (by omega)
  have e1 : (T k).1 = ref := by rw [hT]
  have e2 : (T k).2.1 = name := by rw [hT]
  have e3 : (T k).2.2.1 = desc := by rw [hT]
  have hce : xce G Y S o = .inr (ci, xfs (xad G) S ci o) := by unfold xce; rw [hk, if_pos hci]
  refine va_get (C := C) (T := T) (N := N) (ci := ci) (ref := ref) (index := index) hx hb hts hin hown hK hP o (by rw [xw_get ho, hce]) hc k hkN (by rw [e2, e3]; exact hts _ hlink) (by rw [e1]; exact fun _ h => h) (xfs_get hft) hdg kk
theorem x_getI (X : xX p s m args meth c cc nL ret own G Y) (hP : xP G Y S H) {o : Nat} (ci k t : Nat) {index : Nat} {C ref name desc : String} {T : u_T} {N : Nat} (hk : xk Y o = ci) (hci : ci < 10) (hc : vwCl[ci]? = some (C, T, N)) (hin : ∀ w ∈ u_ws C T N, w ∈ xU) (hkN : k < N) (hT : T k = (ref, name, desc, (T k).2.2.2)) (hft : (xfl ci)[k]? = some t) (ht : ¬ t = 1 ∧ ¬ t = 2) (hlink : Cond.fieldLink own index ref name desc ∈ xU) (hdg : decode cc pc = .ok (.getfield index, 3))
    (kk : W p l e R s m args below meth c H locs 0 0 Q (F0 m (pc + 3) ls (.int (gI S o k) :: rest))) : W p l e R s m args below meth c H locs 0 0 Q (F0 m pc ls (.ref (xad G o) :: rest)) := by
  refine x_get X hP hk hci hc hin hkN hT hft hlink hdg ?_
  unfold xfv
  rw [if_neg ht.1, if_neg ht.2]
  exact kk
theorem x_getJ (X : xX p s m args meth c cc nL ret own G Y) (hP : xP G Y S H) {o : Nat} (ci k : Nat) {index : Nat} {C ref name desc : String} {T : u_T} {N : Nat} (hk : xk Y o = ci) (hci : ci < 10) (hc : vwCl[ci]? = some (C, T, N)) (hin : ∀ w ∈ u_ws C T N, w ∈ xU) (hkN : k < N) (hT : T k = (ref, name, desc, (T k).2.2.2)) (hft : (xfl ci)[k]? = some 1) (hlink : Cond.fieldLink own index ref name desc ∈ xU) (hdg : decode cc pc = .ok (.getfield index, 3))
    (kk : W p l e R s m args below meth c H locs 0 0 Q (F0 m (pc + 3) ls (.long (gJ S o k) :: rest))) : W p l e R s m args below meth c H locs 0 0 Q (F0 m pc ls (.ref (xad G o) :: rest)) := by
  refine x_get X hP hk hci hc hin hkN hT hft hlink hdg ?_
  unfold xfv
  rw [if_pos rfl]
  exact kk
theorem x_getR (X : xX p s m args meth c cc nL ret own G Y) (hP : xP G Y S H) {o : Nat} (ci k : Nat) {index : Nat} {C ref name desc : String} {T : u_T} {N : Nat} (hk : xk Y o = ci) (hci : ci < 10) (hc : vwCl[ci]? = some (C, T, N)) (hin : ∀ w ∈ u_ws C T N, w ∈ xU) (hkN : k < N) (hT : T k = (ref, name, desc, (T k).2.2.2)) (hft : (xfl ci)[k]? = some 2) (hlink : Cond.fieldLink own index ref name desc ∈ xU) (hdg : decode cc pc = .ok (.getfield index, 3))
    (kk : W p l e R s m args below meth c H locs 0 0 Q (F0 m (pc + 3) ls (va_rf ((gR S o k).map (xad G)) :: rest))) : W p l e R s m args below meth c H locs 0 0 Q (F0 m pc ls (.ref (xad G o) :: rest)) := by
  refine x_get X hP hk hci hc hin hkN hT hft hlink hdg ?_
  unfold xfv
  rw [if_neg (by decide), if_pos rfl]
  exact kk
/-- a reference that is known not to be null, of a kind -/
theorem x_getD (X : xX p s m args meth c cc nL ret own G Y) (hP : xP G Y S H) {o : Nat} (ci k : Nat) {index cj d : Nat} {C ref name desc : String} {T : u_T} {N : Nat} (hk : xk Y o = ci) (hci : ci < 10) (hc : vwCl[ci]? = some (C, T, N)) (hin : ∀ w ∈ u_ws C T N, w ∈ xU) (hkN : k < N) (hT : T k = (ref, name, desc, (T k).2.2.2)) (hft : (xfl ci)[k]? = some 2) (hlink : Cond.fieldLink own index ref name desc ∈ xU) (hdg : decode cc pc = .ok (.getfield index, 3)) (hd : dO Y (gR S o k) cj = some d)
    (kk : W p l e R s m args below meth c H locs 0 0 Q (F0 m (pc + 3) ls (.ref (xad G d) :: rest))) : W p l e R s m args below meth c H locs 0 0 Q (F0 m pc ls (.ref (xad G o) :: rest)) := by
  refine x_getR X hP ci k hk hci hc hin hkN hT hft hlink hdg ?_
  rw [dO_r hd]
  exact kk
theorem x_put (X : xX p s m args meth c cc nL ret own G Y) (hP : xP G Y S H) (hS : va_S (xA G Y) s.heap H locs) {o ci k index : Nat} {C ref name desc : String} {T : u_T} {N : Nat} {ty0 : Nat → FieldType} {ty : FieldType} {v : Value} (hk : xk Y o = ci) (hci : ci < 10) (hc : vwCl[ci]? = some (C, T, N)) (hin : ∀ w ∈ u_ws C T N, w ∈ xU) (hty : ∀ k, k < N → parseFieldDescriptor (T k).2.2.1 = some (ty0 k)) (hnm : ∀ a, a < N → ∀ b, b < N → a ≠ b → (T a).2.1 ≠ (T b).2.1) (hkN : k < N) (hT : T k = (ref, name, desc, false)) (hd : parseFieldDescriptor desc = some ty) (hn : narrow ty v = v) (hfit : fits ty v = true) (hl : k < (xfl ci).length) (hlink : Cond.fieldLink own index ref name desc ∈ xU) (hdg : decode cc pc = .ok (.putfield index, 3))
    (hset : (xw G Y S).set o (xad G o, .inr (ci, (xfs (xad G) S ci o).set k v)) = xw G Y S')
    (kk : ∀ (H : Heap) (locs : List Loc), xP G Y S' H → va_S (xA G Y) s.heap H locs → W p l e R s m args below meth c H locs 0 0 Q (F0 m (pc + 3) ls rest)) : W p l e R s m args below meth c H locs 0 0 Q (F0 m pc ls (v :: .ref (xad G o) :: rest)) := by
  obtain ⟨hx, hb, hml, hown, hts, hr, hlk, hK, hE, hJ⟩ := X
  have ho : o < Y.length := xk_lt hk (by omega)
  have e1 : (T k).1 = ref := by rw [hT]
  have e2 : (T k).2.1 = name := by rw [hT]
  have e3 : (T k).2.2.1 = desc := by rw [hT]
  have e4 : (T k).2.2.2 = false := by rw [hT]
  have hce : xce G Y S o = .inr (ci, xfs (xad G) S ci o) := by unfold xce; rw [hk, if_pos hci]
  refine va_put (C := C) (T := T) (N := N) (ci := ci) (ref := ref) (index := index) (ty := ty) hx hb hts hin ty0 hty hnm hown hK hP (xw_D hJ) hS o (by rw [xw_get ho, hce]) hc k hkN (by rw [e2, e3]; exact hts _ hlink) (by rw [e1]; exact fun _ h => h) e4 (by rw [e3]; exact hd) hn hfit (by rw [xfs_len]; exact hl) hdg ?_
  intro H1 locs1 h1 _ h3
  rw [hset] at h1
  exact kk H1 locs1 h1 h3
theorem x_putI (X : xX p s m args meth c cc nL ret own G Y) (hP : xP G Y S H) (hS : va_S (xA G Y) s.heap H locs) {o : Nat} (ci k : Nat) {index : Nat} {C ref name desc : String} {T : u_T} {N : Nat} {ty0 : Nat → FieldType} {v : Int32} (hk : xk Y o = ci) (hci : ci < 10) (hc : vwCl[ci]? = some (C, T, N)) (hin : ∀ w ∈ u_ws C T N, w ∈ xU) (hty : ∀ k, k < N → parseFieldDescriptor (T k).2.2.1 = some (ty0 k)) (hnm : ∀ a, a < N → ∀ b, b < N → a ≠ b → (T a).2.1 ≠ (T b).2.1) (hkN : k < N) (hT : T k = (ref, name, desc, false)) (hd : parseFieldDescriptor desc = some .int) (hft : (xfl ci)[k]? = some 0) (hlink : Cond.fieldLink own index ref name desc ∈ xU) (hdg : decode cc pc = .ok (.putfield index, 3)) (eS : S' = pI S o k v)
    (kk : ∀ (H : Heap) (locs : List Loc), xP G Y S' H → va_S (xA G Y) s.heap H locs → W p l e R s m args below meth c H locs 0 0 Q (F0 m (pc + 3) ls rest)) : W p l e R s m args below meth c H locs 0 0 Q (F0 m pc ls (.int v :: .ref (xad G o) :: rest)) := by
  subst eS
  refine x_put X hP hS hk hci hc hin hty hnm hkN hT hd rfl rfl (List.getElem?_eq_some_iff.mp hft).1 hlink hdg ?_ kk
  refine xw_set (xk_lt hk (by omega)) ?_ (fun d h => xce_pI h)
  unfold xce
  rw [hk, if_pos hci, xfs_set (S' := pI S o k v) hft ?_ ?_]
  · unfold xfv pI
    rw [if_neg (by decide), if_neg (by decide)]
    dsimp only
    rw [x2_self]
  · intro t' k' h
    unfold xfv pI
    dsimp only
    rw [x2_nk h]
theorem x_putZ (X : xX p s m args meth c cc nL ret own G Y) (hP : xP G Y S H) (hS : va_S (xA G Y) s.heap H locs) {o : Nat} (ci k : Nat) {index : Nat} {C ref name desc : String} {T : u_T} {N : Nat} {ty0 : Nat → FieldType} {v : Int32} (hz : v = 0 ∨ v = 1) (hk : xk Y o = ci) (hci : ci < 10) (hc : vwCl[ci]? = some (C, T, N)) (hin : ∀ w ∈ u_ws C T N, w ∈ xU) (hty : ∀ k, k < N → parseFieldDescriptor (T k).2.2.1 = some (ty0 k)) (hnm : ∀ a, a < N → ∀ b, b < N → a ≠ b → (T a).2.1 ≠ (T b).2.1) (hkN : k < N) (hT : T k = (ref, name, desc, false)) (hd : parseFieldDescriptor desc = some .boolean) (hft : (xfl ci)[k]? = some 3) (hlink : Cond.fieldLink own index ref name desc ∈ xU) (hdg : decode cc pc = .ok (.putfield index, 3)) (eS : S' = pI S o k v)
    (kk : ∀ (H : Heap) (locs : List Loc), xP G Y S' H → va_S (xA G Y) s.heap H locs → W p l e R s m args below meth c H locs 0 0 Q (F0 m (pc + 3) ls rest)) : W p l e R s m args below meth c H locs 0 0 Q (F0 m pc ls (.int v :: .ref (xad G o) :: rest)) := by
  subst eS
  refine x_put X hP hS hk hci hc hin hty hnm hkN hT hd (by rcases hz with rfl | rfl <;> decide +kernel) (by rcases hz with rfl | rfl <;> decide +kernel) (List.getElem?_eq_some_iff.mp hft).1 hlink hdg ?_ kk
  refine xw_set (xk_lt hk (by omega)) ?_ (fun d h => xce_pI h)
  unfold xce
  rw [hk, if_pos hci, xfs_set (S' := pI S o k v) hft ?_ ?_]
  · unfold xfv pI
    rw [if_neg (by decide), if_neg (by decide)]
    dsimp only
    rw [x2_self]
  · intro t' k' h
    unfold xfv pI
    dsimp only
    rw [x2_nk h]
theorem x_putJ (X : xX p s m args meth c cc nL ret own G Y) (hP : xP G Y S H) (hS : va_S (xA G Y) s.heap H locs) {o : Nat} (ci k : Nat) {index : Nat} {C ref name desc : String} {T : u_T} {N : Nat} {ty0 : Nat → FieldType} {v : Int64} (hk : xk Y o = ci) (hci : ci < 10) (hc : vwCl[ci]? = some (C, T, N)) (hin : ∀ w ∈ u_ws C T N, w ∈ xU) (hty : ∀ k, k < N → parseFieldDescriptor (T k).2.2.1 = some (ty0 k)) (hnm : ∀ a, a < N → ∀ b, b < N → a ≠ b → (T a).2.1 ≠ (T b).2.1) (hkN : k < N) (hT : T k = (ref, name, desc, false)) (hd : parseFieldDescriptor desc = some .long) (hft : (xfl ci)[k]? = some 1) (hlink : Cond.fieldLink own index ref name desc ∈ xU) (hdg : decode cc pc = .ok (.putfield index, 3)) (eS : S' = pJ S o k v)
    (kk : ∀ (H : Heap) (locs : List Loc), xP G Y S' H → va_S (xA G Y) s.heap H locs → W p l e R s m args below meth c H locs 0 0 Q (F0 m (pc + 3) ls rest)) : W p l e R s m args below meth c H locs 0 0 Q (F0 m pc ls (.long v :: .ref (xad G o) :: rest)) := by
  subst eS
  refine x_put X hP hS hk hci hc hin hty hnm hkN hT hd rfl rfl (List.getElem?_eq_some_iff.mp hft).1 hlink hdg ?_ kk
  refine xw_set (xk_lt hk (by omega)) ?_ (fun d h => xce_pJ h)
  unfold xce
  rw [hk, if_pos hci, xfs_set (S' := pJ S o k v) hft ?_ ?_]
  · unfold xfv pJ
    rw [if_pos rfl]
    dsimp only
    rw [x2_self]
  · intro t' k' h
    unfold xfv pJ
    dsimp only
    rw [x2_nk h]
theorem x_putR (X : xX p s m args meth c cc nL ret own G Y) (hP : xP G Y S H) (hS : va_S (xA G Y) s.heap H locs) {o : Nat} (ci k : Nat) {index : Nat} {C ref name desc : String} {T : u_T} {N : Nat} {ty0 : Nat → FieldType} {ty : FieldType} {v : Option Nat} (hn : ∀ r, narrow ty (va_rf r) = va_rf r ∧ fits ty (va_rf r) = true) (hk : xk Y o = ci) (hci : ci < 10) (hc : vwCl[ci]? = some (C, T, N)) (hin : ∀ w ∈ u_ws C T N, w ∈ xU) (hty : ∀ k, k < N → parseFieldDescriptor (T k).2.2.1 = some (ty0 k)) (hnm : ∀ a, a < N → ∀ b, b < N → a ≠ b → (T a).2.1 ≠ (T b).2.1) (hkN : k < N) (hT : T k = (ref, name, desc, false)) (hd : parseFieldDescriptor desc = some ty) (hft : (xfl ci)[k]? = some 2) (hlink : Cond.fieldLink own index ref name desc ∈ xU) (hdg : decode cc pc = .ok (.putfield index, 3)) (eS : S' = pR S o k v)
    (kk : ∀ (H : Heap) (locs : List Loc), xP G Y S' H → va_S (xA G Y) s.heap H locs → W p l e R s m args below meth c H locs 0 0 Q (F0 m (pc + 3) ls rest)) : W p l e R s m args below meth c H locs 0 0 Q (F0 m pc ls (va_rf (v.map (xad G)) :: .ref (xad G o) :: rest)) := by
  subst eS
  refine x_put X hP hS hk hci hc hin hty hnm hkN hT hd (hn _).1 (hn _).2 (List.getElem?_eq_some_iff.mp hft).1 hlink hdg ?_ kk
  refine xw_set (xk_lt hk (by omega)) ?_ (fun d h => xce_pR h)
  unfold xce
  rw [hk, if_pos hci, xfs_set (S' := pR S o k v) hft ?_ ?_]
  · unfold xfv pR
    rw [if_neg (by decide), if_pos rfl]
    dsimp only
    rw [x2_self]
  · intro t' k' h
    unfold xfv pR
    dsimp only
    rw [x2_nk h]
end XROWS

/-! THE CLAIM OUT OF ONE WALK OF THE LAW'S BODY. Your part is whole_start (and what it stands on); all else here is the same for every law, but numbers. -/
def R_law : String := "CakeCalendarLaw"
def lw_P (b : Addr) (xs : List Int32) (args : Array Value) (s : State) : Prop := args = #[.ref b] ∧ s.IntsAt b xs ∧ xs.length ≤ 3072 ∧ (Jvm.Cond.and given_1 narrow_1).before args s = true
def lw_Q (_ : Array Value) (s : State) (o : Outcome) (t : State) : Prop := o = .returned (some (.int 1)) ∧ Framed s o t [] 600000 7302250
def lw_Z (below : List Frame) (a : Array Value) (s : State) : State → Prop := fun t => ∃ o, t.status = .running ∧ Ended t below o ∧ lw_Q a s o t
/-- the law's own end, with 1 on the stack, nothing written that was there before, its room as the claim has it -/
theorem lw_ret {p : Program} {l : Launch} {e : Env} {s : State} {m : MethodId} {below : List Frame} {meth : Method} {c : Code} {b : Nat} (hx : p.tables.exec = Jvm.exec) (hb : c.code = code) (hr : meth.sig.returnType = ret) (hlocks : meth.locks = false) {pc : Nat} {H : Heap} {ls : Array Slot} (hdg : decode code pc = .ok (.ireturn, 1)) : W p l e room_1 s m #[Value.ref b] below meth c H [] 600000 7302250 (lw_Z below #[Value.ref b] s) (F0 m pc ls [.int 1]) := by
  intro T hT X
  obtain ⟨fs, hret, hrun, hended, hW, hframe⟩ := X.leave (v := some (.int 1)) (hlocks := hlocks) (fun h => by rw [hr] at h; cases h)
  have hmeth' : T.vm.method? m = some meth := X.method'
  refine ⟨T.setFrames fs, ?_, .returned (some (.int 1)), hrun, hended, rfl, ⟨_, rfl⟩, hW, hframe⟩
  jvm_step X.here [X.here.top, hx, hb, hdg, hmeth', hr, ret, narrow_b1]
  (try refine ⟨rfl, ?_⟩); (try refine ⟨rfl, ?_⟩)
  first | (intro acts; rw [hret _ acts rfl rfl rfl]) | rw [hret _ _ rfl rfl rfl]
  exact Steps.refl _
/-- what holds at the law's entry: the machine, the code, the tables' words (any of lw_tbl by 'hts w (by decide +kernel)'), the script of L ints xs at the cell b, what the Statement gives of the start (any of its parts by flat_of_before) -/
def lw_At (p : Program) (s : State) (m : MethodId) (meth : Method) (c : Code) (b L : Nat) (xs : Nat → Int32) : Prop :=
  p.tables.exec = Jvm.exec ∧ c.code = code ∧ meth.sig.returnType = ret ∧ c.maxLocals = 4 ∧ s.vm.findClass R_law = some m.cls ∧ (∀ w ∈ lw_tbl, w.before #[Value.ref b] s = true) ∧ va_X b L xs s s.heap ∧ b < s.heap.size ∧ meth.locks = false ∧ (Jvm.Cond.and given_1 narrow_1).before #[Value.ref b] s = true
theorem qw861 : Cond.methodLink RL 13 yX8_sister ∈ xU := xU_in (List.mem_append_right _ (List.mem_of_getElem? (i := 309) (by decide +kernel))) (by decide +kernel)
theorem qw862 : Cond.methodLink RL 17 yX9_sister ∈ xU := xU_in (List.mem_append_right _ (List.mem_of_getElem? (i := 932) (by decide +kernel))) (by decide +kernel)
theorem qw863 : Cond.methodLink RL 18 yX8_mice ∈ xU := xU_in (List.mem_append_right _ (List.mem_of_getElem? (i := 317) (by decide +kernel))) (by decide +kernel)
theorem qw864 : Cond.methodLink RL 22 yX9_mice ∈ xU := xU_in (List.mem_append_right _ (List.mem_of_getElem? (i := 939) (by decide +kernel))) (by decide +kernel)
theorem qw865 : Cond.methodLink RL 23 yX8_seed ∈ xU := xU_in (List.mem_append_right _ (List.mem_of_getElem? (i := 321) (by decide +kernel))) (by decide +kernel)
theorem qw866 : Cond.methodLink RL 26 yX9_seed ∈ xU := xU_in (List.mem_append_right _ (List.mem_of_getElem? (i := 943) (by decide +kernel))) (by decide +kernel)
theorem qw867 : Cond.methodLink RL 27 yX8_feed ∈ xU := xU_in (List.mem_append_right _ (List.mem_of_getElem? (i := 329) (by decide +kernel))) (by decide +kernel)
theorem qw868 : Cond.methodLink RL 31 yX9_feed ∈ xU := xU_in (List.mem_append_right _ (List.mem_of_getElem? (i := 947) (by decide +kernel))) (by decide +kernel)
theorem qw869 : Cond.methodLink RL 32 yX8_end ∈ xU := xU_in (List.mem_append_right _ (List.mem_of_getElem? (i := 337) (by decide +kernel))) (by decide +kernel)
theorem qw870 : Cond.methodLink RL 35 yX9_end ∈ xU := xU_in (List.mem_append_right _ (List.mem_of_getElem? (i := 955) (by decide +kernel))) (by decide +kernel)
theorem qw871 : Cond.methodLink RL 36 yX8_text ∈ xU := xU_in (List.mem_append_right _ (List.mem_of_getElem? (i := 341) (by decide +kernel))) (by decide +kernel)
theorem qw872 : Cond.methodLink RL 40 yX9_text ∈ xU := xU_in (List.mem_append_right _ (List.mem_of_getElem? (i := 959) (by decide +kernel))) (by decide +kernel)
theorem qw873 : Cond.methodLink RL 41 yX8_fault ∈ xU := xU_in (List.mem_append_right _ (List.mem_of_getElem? (i := 536) (by decide +kernel))) (by decide +kernel)
theorem qw874 : Cond.methodLink RL 44 yX9_fault ∈ xU := xU_in (List.mem_append_right _ (List.mem_of_getElem? (i := 1088) (by decide +kernel))) (by decide +kernel)
theorem qw875 : Cond.methodLink RL 45 yX8_by ∈ xU := xU_in (List.mem_append_right _ (List.mem_of_getElem? (i := 540) (by decide +kernel))) (by decide +kernel)
theorem qw876 : Cond.methodLink RL 48 yX9_by ∈ xU := xU_in (List.mem_append_right _ (List.mem_of_getElem? (i := 1092) (by decide +kernel))) (by decide +kernel)
theorem qw877 : Cond.methodLink RL 49 yX8_slices ∈ xU := xU_in (List.mem_append_right _ (List.mem_of_getElem? (i := 544) (by decide +kernel))) (by decide +kernel)
theorem qw878 : Cond.methodLink RL 53 yX9_slices ∈ xU := xU_in (List.mem_append_right _ (List.mem_of_getElem? (i := 1096) (by decide +kernel))) (by decide +kernel)
theorem qw879 : Cond.methodLink RL 54 yX8_seat ∈ xU := xU_in (List.mem_append_right _ (List.mem_of_getElem? (i := 590) (by decide +kernel))) (by decide +kernel)
theorem qw880 : Cond.methodLink RL 58 yX9_seat ∈ xU := xU_in (List.mem_append_right _ (List.mem_of_getElem? (i := 1136) (by decide +kernel))) (by decide +kernel)
theorem qw881 : Cond.methodLink RL 59 yX8_hide ∈ xU := xU_in (List.mem_append_right _ (List.mem_of_getElem? (i := 610) (by decide +kernel))) (by decide +kernel)
theorem qw882 : Cond.methodLink RL 62 yX9_hide ∈ xU := xU_in (List.mem_append_right _ (List.mem_of_getElem? (i := 1152) (by decide +kernel))) (by decide +kernel)
theorem qw883 : Cond.methodLink RL 63 yX8_give ∈ xU := xU_in (List.mem_append_right _ (List.mem_of_getElem? (i := 622) (by decide +kernel))) (by decide +kernel)
theorem qw884 : Cond.methodLink RL 66 yX9_give ∈ xU := xU_in (List.mem_append_right _ (List.mem_of_getElem? (i := 1160) (by decide +kernel))) (by decide +kernel)
theorem qw885 : Cond.methodLink RL 67 yX8_pass ∈ xU := xU_in (List.mem_append_right _ (List.mem_of_getElem? (i := 626) (by decide +kernel))) (by decide +kernel)
theorem qw886 : Cond.methodLink RL 70 yX9_pass ∈ xU := xU_in (List.mem_append_right _ (List.mem_of_getElem? (i := 1164) (by decide +kernel))) (by decide +kernel)
theorem qw887 : Cond.methodLink RL 71 yX8_played ∈ xU := xU_in (List.mem_append_right _ (List.mem_of_getElem? (i := 680) (by decide +kernel))) (by decide +kernel)
theorem qw888 : Cond.methodLink RL 74 yX9_played ∈ xU := xU_in (List.mem_append_right _ (List.mem_of_getElem? (i := 1195) (by decide +kernel))) (by decide +kernel)
theorem qw889 : Cond.methodLink RL 75 yX8_undo ∈ xU := xU_in (List.mem_append_right _ (List.mem_of_getElem? (i := 688) (by decide +kernel))) (by decide +kernel)
theorem qw890 : Cond.methodLink RL 78 yX9_undo ∈ xU := xU_in (List.mem_append_right _ (List.mem_of_getElem? (i := 1132) (by decide +kernel))) (by decide +kernel)
theorem qw891 : Cond.methodLink RL 79 yX8_of ∈ xU := xU_in (List.mem_append_right _ (List.mem_of_getElem? (i := 696) (by decide +kernel))) (by decide +kernel)
theorem qw892 : Cond.methodLink RL 82 yX9_of ∈ xU := xU_in (List.mem_append_right _ (List.mem_of_getElem? (i := 1207) (by decide +kernel))) (by decide +kernel)
theorem qw893 : Cond.methodLink RL 83 yX8_sisterOf ∈ xU := xU_in (List.mem_append_right _ (List.mem_of_getElem? (i := 702) (by decide +kernel))) (by decide +kernel)
theorem qw894 : Cond.methodLink RL 86 yX9_sisterOf ∈ xU := xU_in (List.mem_append_right _ (List.mem_of_getElem? (i := 1211) (by decide +kernel))) (by decide +kernel)
theorem qw895 : Cond.methodLink RL 87 yX8_comes ∈ xU := xU_in (List.mem_append_right _ (List.mem_of_getElem? (i := 712) (by decide +kernel))) (by decide +kernel)
theorem qw896 : Cond.methodLink RL 91 yX9_comes ∈ xU := xU_in (List.mem_append_right _ (List.mem_of_getElem? (i := 1215) (by decide +kernel))) (by decide +kernel)
theorem qw897 : Cond.methodLink RL 92 yX8_odds ∈ xU := xU_in (List.mem_append_right _ (List.mem_of_getElem? (i := 724) (by decide +kernel))) (by decide +kernel)
theorem qw898 : Cond.methodLink RL 96 yX9_odds ∈ xU := xU_in (List.mem_append_right _ (List.mem_of_getElem? (i := 1223) (by decide +kernel))) (by decide +kernel)
theorem qw899 : Cond.methodLink RL 97 yX8_apart ∈ xU := xU_in (List.mem_append_right _ (List.mem_of_getElem? (i := 750) (by decide +kernel))) (by decide +kernel)
theorem qw900 : Cond.methodLink RL 100 yX9_apart ∈ xU := xU_in (List.mem_append_right _ (List.mem_of_getElem? (i := 1236) (by decide +kernel))) (by decide +kernel)
theorem qw901 : Cond.methodLink RL 101 yX8_flour ∈ xU := xU_in (List.mem_append_right _ (List.mem_of_getElem? (i := 758) (by decide +kernel))) (by decide +kernel)
theorem qw902 : Cond.methodLink RL 105 yX9_flour ∈ xU := xU_in (List.mem_append_right _ (List.mem_of_getElem? (i := 1244) (by decide +kernel))) (by decide +kernel)
theorem qw903 : Cond.methodLink RL 106 yX8_saint ∈ xU := xU_in (List.mem_append_right _ (List.mem_of_getElem? (i := 762) (by decide +kernel))) (by decide +kernel)
theorem qw904 : Cond.methodLink RL 110 yX9_saint ∈ xU := xU_in (List.mem_append_right _ (List.mem_of_getElem? (i := 1248) (by decide +kernel))) (by decide +kernel)
theorem qw905 : Cond.methodLink RL 111 yX8_seen ∈ xU := xU_in (List.mem_append_right _ (List.mem_of_getElem? (i := 789) (by decide +kernel))) (by decide +kernel)
theorem qw906 : Cond.methodLink RL 114 yX9_seen ∈ xU := xU_in (List.mem_append_right _ (List.mem_of_getElem? (i := 1263) (by decide +kernel))) (by decide +kernel)
theorem qw907 : Cond.methodLink RL 115 yX8_who ∈ xU := xU_in (List.mem_append_right _ (List.mem_of_getElem? (i := 793) (by decide +kernel))) (by decide +kernel)
theorem qw908 : Cond.methodLink RL 118 yX9_who ∈ xU := xU_in (List.mem_append_right _ (List.mem_of_getElem? (i := 1267) (by decide +kernel))) (by decide +kernel)
theorem qw909 : Cond.methodLink RL 119 yX8_image ∈ xU := xU_in (List.mem_append_right _ (List.mem_of_getElem? (i := 808) (by decide +kernel))) (by decide +kernel)
theorem qw910 : Cond.methodLink RL 122 yX9_image ∈ xU := xU_in (List.mem_append_right _ (List.mem_of_getElem? (i := 1275) (by decide +kernel))) (by decide +kernel)
theorem qw911 : Cond.methodLink RL 123 yX8_back ∈ xU := xU_in (List.mem_append_right _ (List.mem_of_getElem? (i := 816) (by decide +kernel))) (by decide +kernel)
theorem qw912 : Cond.methodLink RL 126 yX9_back ∈ xU := xU_in (List.mem_append_right _ (List.mem_of_getElem? (i := 1279) (by decide +kernel))) (by decide +kernel)
theorem qw913 : Cond.methodLink RL 127 yX8_about ∈ xU := xU_in (List.mem_append_right _ (List.mem_of_getElem? (i := 820) (by decide +kernel))) (by decide +kernel)
theorem qw914 : Cond.methodLink RL 130 yX9_about ∈ xU := xU_in (List.mem_append_right _ (List.mem_of_getElem? (i := 1283) (by decide +kernel))) (by decide +kernel)
theorem qw915 : Cond.code yX8_about cX8_about 2 (some .int) ∈ xU := xU_in (List.mem_append_right _ (List.mem_of_getElem? (i := 823) (by decide +kernel))) (by decide +kernel)
theorem qw916 : Cond.instanceMethod yX8_about ∈ xU := xU_in (List.mem_append_right _ (List.mem_of_getElem? (i := 821) (by decide +kernel))) (by decide +kernel)
theorem qw917 : Cond.selects RX8 yX8_about yX8_about ∈ xU := xU_in (List.mem_append_right _ (List.mem_of_getElem? (i := 822) (by decide +kernel))) (by decide +kernel)
theorem qw918 : Cond.code yX8_apart cX8_apart 2 (some .int) ∈ xU := xU_in (List.mem_append_right _ (List.mem_of_getElem? (i := 753) (by decide +kernel))) (by decide +kernel)
theorem qw919 : Cond.instanceMethod yX8_apart ∈ xU := xU_in (List.mem_append_right _ (List.mem_of_getElem? (i := 751) (by decide +kernel))) (by decide +kernel)
theorem qw920 : Cond.selects RX8 yX8_apart yX8_apart ∈ xU := xU_in (List.mem_append_right _ (List.mem_of_getElem? (i := 752) (by decide +kernel))) (by decide +kernel)
theorem qw921 : Cond.code yX8_back cX8_back 1 (some .int) ∈ xU := xU_in (List.mem_append_right _ (List.mem_of_getElem? (i := 819) (by decide +kernel))) (by decide +kernel)
theorem qw922 : Cond.instanceMethod yX8_back ∈ xU := xU_in (List.mem_append_right _ (List.mem_of_getElem? (i := 817) (by decide +kernel))) (by decide +kernel)
theorem qw923 : Cond.selects RX8 yX8_back yX8_back ∈ xU := xU_in (List.mem_append_right _ (List.mem_of_getElem? (i := 818) (by decide +kernel))) (by decide +kernel)
theorem qw924 : Cond.code yX8_by cX8_by 2 (some .boolean) ∈ xU := xU_in (List.mem_append_right _ (List.mem_of_getElem? (i := 543) (by decide +kernel))) (by decide +kernel)
theorem qw925 : Cond.instanceMethod yX8_by ∈ xU := xU_in (List.mem_append_right _ (List.mem_of_getElem? (i := 541) (by decide +kernel))) (by decide +kernel)
theorem qw926 : Cond.selects RX8 yX8_by yX8_by ∈ xU := xU_in (List.mem_append_right _ (List.mem_of_getElem? (i := 542) (by decide +kernel))) (by decide +kernel)
theorem qw927 : Cond.code yX8_comes cX8_comes 4 (some .int) ∈ xU := xU_in (List.mem_append_right _ (List.mem_of_getElem? (i := 715) (by decide +kernel))) (by decide +kernel)
theorem qw928 : Cond.instanceMethod yX8_comes ∈ xU := xU_in (List.mem_append_right _ (List.mem_of_getElem? (i := 713) (by decide +kernel))) (by decide +kernel)
theorem qw929 : Cond.selects RX8 yX8_comes yX8_comes ∈ xU := xU_in (List.mem_append_right _ (List.mem_of_getElem? (i := 714) (by decide +kernel))) (by decide +kernel)
theorem qw930 : Cond.code yX8_end cX8_end 2 (some .int) ∈ xU := xU_in (List.mem_append_right _ (List.mem_of_getElem? (i := 340) (by decide +kernel))) (by decide +kernel)
theorem qw931 : Cond.instanceMethod yX8_end ∈ xU := xU_in (List.mem_append_right _ (List.mem_of_getElem? (i := 338) (by decide +kernel))) (by decide +kernel)
theorem qw932 : Cond.selects RX8 yX8_end yX8_end ∈ xU := xU_in (List.mem_append_right _ (List.mem_of_getElem? (i := 339) (by decide +kernel))) (by decide +kernel)
theorem qw933 : Cond.code yX8_fault cX8_fault 2 (some .int) ∈ xU := xU_in (List.mem_append_right _ (List.mem_of_getElem? (i := 539) (by decide +kernel))) (by decide +kernel)
theorem qw934 : Cond.instanceMethod yX8_fault ∈ xU := xU_in (List.mem_append_right _ (List.mem_of_getElem? (i := 537) (by decide +kernel))) (by decide +kernel)
theorem qw935 : Cond.selects RX8 yX8_fault yX8_fault ∈ xU := xU_in (List.mem_append_right _ (List.mem_of_getElem? (i := 538) (by decide +kernel))) (by decide +kernel)
theorem qw936 : Cond.code yX8_feed cX8_feed 6 (some .int) ∈ xU := xU_in (List.mem_append_right _ (List.mem_of_getElem? (i := 332) (by decide +kernel))) (by decide +kernel)
theorem qw937 : Cond.instanceMethod yX8_feed ∈ xU := xU_in (List.mem_append_right _ (List.mem_of_getElem? (i := 330) (by decide +kernel))) (by decide +kernel)
theorem qw938 : Cond.selects RX8 yX8_feed yX8_feed ∈ xU := xU_in (List.mem_append_right _ (List.mem_of_getElem? (i := 331) (by decide +kernel))) (by decide +kernel)
theorem qw939 : Cond.code yX8_flour cX8_flour 7 (some .int) ∈ xU := xU_in (List.mem_append_right _ (List.mem_of_getElem? (i := 761) (by decide +kernel))) (by decide +kernel)
theorem qw940 : Cond.instanceMethod yX8_flour ∈ xU := xU_in (List.mem_append_right _ (List.mem_of_getElem? (i := 759) (by decide +kernel))) (by decide +kernel)
theorem qw941 : Cond.selects RX8 yX8_flour yX8_flour ∈ xU := xU_in (List.mem_append_right _ (List.mem_of_getElem? (i := 760) (by decide +kernel))) (by decide +kernel)
theorem qw942 : Cond.code yX8_image cX8_image 1 (some .int) ∈ xU := xU_in (List.mem_append_right _ (List.mem_of_getElem? (i := 811) (by decide +kernel))) (by decide +kernel)
theorem qw943 : Cond.instanceMethod yX8_image ∈ xU := xU_in (List.mem_append_right _ (List.mem_of_getElem? (i := 809) (by decide +kernel))) (by decide +kernel)
theorem qw944 : Cond.selects RX8 yX8_image yX8_image ∈ xU := xU_in (List.mem_append_right _ (List.mem_of_getElem? (i := 810) (by decide +kernel))) (by decide +kernel)
theorem qw945 : Cond.code yX8_mice cX8_mice 2 (some .boolean) ∈ xU := xU_in (List.mem_append_right _ (List.mem_of_getElem? (i := 320) (by decide +kernel))) (by decide +kernel)
theorem qw946 : Cond.instanceMethod yX8_mice ∈ xU := xU_in (List.mem_append_right _ (List.mem_of_getElem? (i := 318) (by decide +kernel))) (by decide +kernel)
theorem qw947 : Cond.selects RX8 yX8_mice yX8_mice ∈ xU := xU_in (List.mem_append_right _ (List.mem_of_getElem? (i := 319) (by decide +kernel))) (by decide +kernel)
theorem qw948 : Cond.code yX8_odds cX8_odds 11 (some .long) ∈ xU := xU_in (List.mem_append_right _ (List.mem_of_getElem? (i := 727) (by decide +kernel))) (by decide +kernel)
theorem qw949 : Cond.instanceMethod yX8_odds ∈ xU := xU_in (List.mem_append_right _ (List.mem_of_getElem? (i := 725) (by decide +kernel))) (by decide +kernel)
theorem qw950 : Cond.selects RX8 yX8_odds yX8_odds ∈ xU := xU_in (List.mem_append_right _ (List.mem_of_getElem? (i := 726) (by decide +kernel))) (by decide +kernel)
theorem qw951 : Cond.code yX8_of cX8_of 3 (some .int) ∈ xU := xU_in (List.mem_append_right _ (List.mem_of_getElem? (i := 699) (by decide +kernel))) (by decide +kernel)
theorem qw952 : Cond.instanceMethod yX8_of ∈ xU := xU_in (List.mem_append_right _ (List.mem_of_getElem? (i := 697) (by decide +kernel))) (by decide +kernel)
theorem qw953 : Cond.selects RX8 yX8_of yX8_of ∈ xU := xU_in (List.mem_append_right _ (List.mem_of_getElem? (i := 698) (by decide +kernel))) (by decide +kernel)
theorem qw954 : Cond.code yX8_played cX8_played 7 (some .int) ∈ xU := xU_in (List.mem_append_right _ (List.mem_of_getElem? (i := 683) (by decide +kernel))) (by decide +kernel)
theorem qw955 : Cond.instanceMethod yX8_played ∈ xU := xU_in (List.mem_append_right _ (List.mem_of_getElem? (i := 681) (by decide +kernel))) (by decide +kernel)
theorem qw956 : Cond.selects RX8 yX8_played yX8_played ∈ xU := xU_in (List.mem_append_right _ (List.mem_of_getElem? (i := 682) (by decide +kernel))) (by decide +kernel)
theorem qw957 : Cond.code yX8_saint cX8_saint 6 (some .int) ∈ xU := xU_in (List.mem_append_right _ (List.mem_of_getElem? (i := 765) (by decide +kernel))) (by decide +kernel)
theorem qw958 : Cond.instanceMethod yX8_saint ∈ xU := xU_in (List.mem_append_right _ (List.mem_of_getElem? (i := 763) (by decide +kernel))) (by decide +kernel)
theorem qw959 : Cond.selects RX8 yX8_saint yX8_saint ∈ xU := xU_in (List.mem_append_right _ (List.mem_of_getElem? (i := 764) (by decide +kernel))) (by decide +kernel)
theorem qw960 : Cond.code yX8_seed cX8_seed 2 (some .boolean) ∈ xU := xU_in (List.mem_append_right _ (List.mem_of_getElem? (i := 324) (by decide +kernel))) (by decide +kernel)
theorem qw961 : Cond.instanceMethod yX8_seed ∈ xU := xU_in (List.mem_append_right _ (List.mem_of_getElem? (i := 322) (by decide +kernel))) (by decide +kernel)
theorem qw962 : Cond.selects RX8 yX8_seed yX8_seed ∈ xU := xU_in (List.mem_append_right _ (List.mem_of_getElem? (i := 323) (by decide +kernel))) (by decide +kernel)
theorem qw963 : Cond.code yX8_seen cX8_seen 2 (some .int) ∈ xU := xU_in (List.mem_append_right _ (List.mem_of_getElem? (i := 792) (by decide +kernel))) (by decide +kernel)
theorem qw964 : Cond.instanceMethod yX8_seen ∈ xU := xU_in (List.mem_append_right _ (List.mem_of_getElem? (i := 790) (by decide +kernel))) (by decide +kernel)
theorem qw965 : Cond.selects RX8 yX8_seen yX8_seen ∈ xU := xU_in (List.mem_append_right _ (List.mem_of_getElem? (i := 791) (by decide +kernel))) (by decide +kernel)
theorem qw966 : Cond.code yX8_sister cX8_sister 2 (some .int) ∈ xU := xU_in (List.mem_append_right _ (List.mem_of_getElem? (i := 312) (by decide +kernel))) (by decide +kernel)
theorem qw967 : Cond.instanceMethod yX8_sister ∈ xU := xU_in (List.mem_append_right _ (List.mem_of_getElem? (i := 310) (by decide +kernel))) (by decide +kernel)
theorem qw968 : Cond.selects RX8 yX8_sister yX8_sister ∈ xU := xU_in (List.mem_append_right _ (List.mem_of_getElem? (i := 311) (by decide +kernel))) (by decide +kernel)
theorem qw969 : Cond.code yX8_sisterOf cX8_sisterOf 3 (some .int) ∈ xU := xU_in (List.mem_append_right _ (List.mem_of_getElem? (i := 705) (by decide +kernel))) (by decide +kernel)
theorem qw970 : Cond.instanceMethod yX8_sisterOf ∈ xU := xU_in (List.mem_append_right _ (List.mem_of_getElem? (i := 703) (by decide +kernel))) (by decide +kernel)
theorem qw971 : Cond.selects RX8 yX8_sisterOf yX8_sisterOf ∈ xU := xU_in (List.mem_append_right _ (List.mem_of_getElem? (i := 704) (by decide +kernel))) (by decide +kernel)
theorem qw972 : Cond.code yX8_slices cX8_slices 3 (some .int) ∈ xU := xU_in (List.mem_append_right _ (List.mem_of_getElem? (i := 547) (by decide +kernel))) (by decide +kernel)
theorem qw973 : Cond.instanceMethod yX8_slices ∈ xU := xU_in (List.mem_append_right _ (List.mem_of_getElem? (i := 545) (by decide +kernel))) (by decide +kernel)
theorem qw974 : Cond.selects RX8 yX8_slices yX8_slices ∈ xU := xU_in (List.mem_append_right _ (List.mem_of_getElem? (i := 546) (by decide +kernel))) (by decide +kernel)
theorem qw975 : Cond.code yX8_text cX8_text 3 (some .int) ∈ xU := xU_in (List.mem_append_right _ (List.mem_of_getElem? (i := 344) (by decide +kernel))) (by decide +kernel)
theorem qw976 : Cond.instanceMethod yX8_text ∈ xU := xU_in (List.mem_append_right _ (List.mem_of_getElem? (i := 342) (by decide +kernel))) (by decide +kernel)
theorem qw977 : Cond.selects RX8 yX8_text yX8_text ∈ xU := xU_in (List.mem_append_right _ (List.mem_of_getElem? (i := 343) (by decide +kernel))) (by decide +kernel)
theorem qw978 : Cond.code yX8_undo cX8_undo 1 (some .int) ∈ xU := xU_in (List.mem_append_right _ (List.mem_of_getElem? (i := 691) (by decide +kernel))) (by decide +kernel)
theorem qw979 : Cond.instanceMethod yX8_undo ∈ xU := xU_in (List.mem_append_right _ (List.mem_of_getElem? (i := 689) (by decide +kernel))) (by decide +kernel)
theorem qw980 : Cond.selects RX8 yX8_undo yX8_undo ∈ xU := xU_in (List.mem_append_right _ (List.mem_of_getElem? (i := 690) (by decide +kernel))) (by decide +kernel)
theorem qw981 : Cond.code yX8_who cX8_who 4 (some .int) ∈ xU := xU_in (List.mem_append_right _ (List.mem_of_getElem? (i := 796) (by decide +kernel))) (by decide +kernel)
theorem qw982 : Cond.instanceMethod yX8_who ∈ xU := xU_in (List.mem_append_right _ (List.mem_of_getElem? (i := 794) (by decide +kernel))) (by decide +kernel)
theorem qw983 : Cond.selects RX8 yX8_who yX8_who ∈ xU := xU_in (List.mem_append_right _ (List.mem_of_getElem? (i := 795) (by decide +kernel))) (by decide +kernel)
theorem qw984 : Cond.code yX9_about cX9_about 2 (some .int) ∈ xU := xU_in (List.mem_append_right _ (List.mem_of_getElem? (i := 1286) (by decide +kernel))) (by decide +kernel)
theorem qw985 : Cond.instanceMethod yX9_about ∈ xU := xU_in (List.mem_append_right _ (List.mem_of_getElem? (i := 1284) (by decide +kernel))) (by decide +kernel)
theorem qw986 : Cond.selects RX9 yX9_about yX9_about ∈ xU := xU_in (List.mem_append_right _ (List.mem_of_getElem? (i := 1285) (by decide +kernel))) (by decide +kernel)
theorem qw987 : Cond.code yX9_apart cX9_apart 3 (some .int) ∈ xU := xU_in (List.mem_append_right _ (List.mem_of_getElem? (i := 1239) (by decide +kernel))) (by decide +kernel)
theorem qw988 : Cond.instanceMethod yX9_apart ∈ xU := xU_in (List.mem_append_right _ (List.mem_of_getElem? (i := 1237) (by decide +kernel))) (by decide +kernel)
theorem qw989 : Cond.selects RX9 yX9_apart yX9_apart ∈ xU := xU_in (List.mem_append_right _ (List.mem_of_getElem? (i := 1238) (by decide +kernel))) (by decide +kernel)
theorem qw990 : Cond.code yX9_back cX9_back 1 (some .int) ∈ xU := xU_in (List.mem_append_right _ (List.mem_of_getElem? (i := 1282) (by decide +kernel))) (by decide +kernel)
theorem qw991 : Cond.instanceMethod yX9_back ∈ xU := xU_in (List.mem_append_right _ (List.mem_of_getElem? (i := 1280) (by decide +kernel))) (by decide +kernel)
theorem qw992 : Cond.selects RX9 yX9_back yX9_back ∈ xU := xU_in (List.mem_append_right _ (List.mem_of_getElem? (i := 1281) (by decide +kernel))) (by decide +kernel)
theorem qw993 : Cond.code yX9_by cX9_by 2 (some .boolean) ∈ xU := xU_in (List.mem_append_right _ (List.mem_of_getElem? (i := 1095) (by decide +kernel))) (by decide +kernel)
theorem qw994 : Cond.instanceMethod yX9_by ∈ xU := xU_in (List.mem_append_right _ (List.mem_of_getElem? (i := 1093) (by decide +kernel))) (by decide +kernel)
theorem qw995 : Cond.selects RX9 yX9_by yX9_by ∈ xU := xU_in (List.mem_append_right _ (List.mem_of_getElem? (i := 1094) (by decide +kernel))) (by decide +kernel)
theorem qw996 : Cond.code yX9_comes cX9_comes 5 (some .int) ∈ xU := xU_in (List.mem_append_right _ (List.mem_of_getElem? (i := 1218) (by decide +kernel))) (by decide +kernel)
theorem qw997 : Cond.instanceMethod yX9_comes ∈ xU := xU_in (List.mem_append_right _ (List.mem_of_getElem? (i := 1216) (by decide +kernel))) (by decide +kernel)
theorem qw998 : Cond.selects RX9 yX9_comes yX9_comes ∈ xU := xU_in (List.mem_append_right _ (List.mem_of_getElem? (i := 1217) (by decide +kernel))) (by decide +kernel)
theorem qw999 : Cond.code yX9_end cX9_end 2 (some .int) ∈ xU := xU_in (List.mem_append_right _ (List.mem_of_getElem? (i := 958) (by decide +kernel))) (by decide +kernel)
theorem qw1000 : Cond.instanceMethod yX9_end ∈ xU := xU_in (List.mem_append_right _ (List.mem_of_getElem? (i := 956) (by decide +kernel))) (by decide +kernel)
theorem qw1001 : Cond.selects RX9 yX9_end yX9_end ∈ xU := xU_in (List.mem_append_right _ (List.mem_of_getElem? (i := 957) (by decide +kernel))) (by decide +kernel)
theorem qw1002 : Cond.code yX9_fault cX9_fault 2 (some .int) ∈ xU := xU_in (List.mem_append_right _ (List.mem_of_getElem? (i := 1091) (by decide +kernel))) (by decide +kernel)
theorem qw1003 : Cond.instanceMethod yX9_fault ∈ xU := xU_in (List.mem_append_right _ (List.mem_of_getElem? (i := 1089) (by decide +kernel))) (by decide +kernel)
theorem qw1004 : Cond.selects RX9 yX9_fault yX9_fault ∈ xU := xU_in (List.mem_append_right _ (List.mem_of_getElem? (i := 1090) (by decide +kernel))) (by decide +kernel)
theorem qw1005 : Cond.code yX9_feed cX9_feed 6 (some .int) ∈ xU := xU_in (List.mem_append_right _ (List.mem_of_getElem? (i := 950) (by decide +kernel))) (by decide +kernel)
theorem qw1006 : Cond.instanceMethod yX9_feed ∈ xU := xU_in (List.mem_append_right _ (List.mem_of_getElem? (i := 948) (by decide +kernel))) (by decide +kernel)
theorem qw1007 : Cond.selects RX9 yX9_feed yX9_feed ∈ xU := xU_in (List.mem_append_right _ (List.mem_of_getElem? (i := 949) (by decide +kernel))) (by decide +kernel)
theorem qw1008 : Cond.code yX9_flour cX9_flour 6 (some .int) ∈ xU := xU_in (List.mem_append_right _ (List.mem_of_getElem? (i := 1247) (by decide +kernel))) (by decide +kernel)
theorem qw1009 : Cond.instanceMethod yX9_flour ∈ xU := xU_in (List.mem_append_right _ (List.mem_of_getElem? (i := 1245) (by decide +kernel))) (by decide +kernel)
theorem qw1010 : Cond.selects RX9 yX9_flour yX9_flour ∈ xU := xU_in (List.mem_append_right _ (List.mem_of_getElem? (i := 1246) (by decide +kernel))) (by decide +kernel)
theorem qw1011 : Cond.code yX9_image cX9_image 1 (some .int) ∈ xU := xU_in (List.mem_append_right _ (List.mem_of_getElem? (i := 1278) (by decide +kernel))) (by decide +kernel)
theorem qw1012 : Cond.instanceMethod yX9_image ∈ xU := xU_in (List.mem_append_right _ (List.mem_of_getElem? (i := 1276) (by decide +kernel))) (by decide +kernel)
theorem qw1013 : Cond.selects RX9 yX9_image yX9_image ∈ xU := xU_in (List.mem_append_right _ (List.mem_of_getElem? (i := 1277) (by decide +kernel))) (by decide +kernel)
theorem qw1014 : Cond.code yX9_mice cX9_mice 2 (some .boolean) ∈ xU := xU_in (List.mem_append_right _ (List.mem_of_getElem? (i := 942) (by decide +kernel))) (by decide +kernel)
theorem qw1015 : Cond.instanceMethod yX9_mice ∈ xU := xU_in (List.mem_append_right _ (List.mem_of_getElem? (i := 940) (by decide +kernel))) (by decide +kernel)
theorem qw1016 : Cond.selects RX9 yX9_mice yX9_mice ∈ xU := xU_in (List.mem_append_right _ (List.mem_of_getElem? (i := 941) (by decide +kernel))) (by decide +kernel)
theorem qw1017 : Cond.code yX9_odds cX9_odds 11 (some .long) ∈ xU := xU_in (List.mem_append_right _ (List.mem_of_getElem? (i := 1226) (by decide +kernel))) (by decide +kernel)
theorem qw1018 : Cond.instanceMethod yX9_odds ∈ xU := xU_in (List.mem_append_right _ (List.mem_of_getElem? (i := 1224) (by decide +kernel))) (by decide +kernel)
theorem qw1019 : Cond.selects RX9 yX9_odds yX9_odds ∈ xU := xU_in (List.mem_append_right _ (List.mem_of_getElem? (i := 1225) (by decide +kernel))) (by decide +kernel)
theorem qw1020 : Cond.code yX9_of cX9_of 3 (some .int) ∈ xU := xU_in (List.mem_append_right _ (List.mem_of_getElem? (i := 1210) (by decide +kernel))) (by decide +kernel)
theorem qw1021 : Cond.instanceMethod yX9_of ∈ xU := xU_in (List.mem_append_right _ (List.mem_of_getElem? (i := 1208) (by decide +kernel))) (by decide +kernel)
theorem qw1022 : Cond.selects RX9 yX9_of yX9_of ∈ xU := xU_in (List.mem_append_right _ (List.mem_of_getElem? (i := 1209) (by decide +kernel))) (by decide +kernel)
theorem qw1023 : Cond.code yX9_played cX9_played 3 (some .int) ∈ xU := xU_in (List.mem_append_right _ (List.mem_of_getElem? (i := 1198) (by decide +kernel))) (by decide +kernel)
theorem qw1024 : Cond.instanceMethod yX9_played ∈ xU := xU_in (List.mem_append_right _ (List.mem_of_getElem? (i := 1196) (by decide +kernel))) (by decide +kernel)
theorem qw1025 : Cond.selects RX9 yX9_played yX9_played ∈ xU := xU_in (List.mem_append_right _ (List.mem_of_getElem? (i := 1197) (by decide +kernel))) (by decide +kernel)
theorem qw1026 : Cond.code yX9_saint cX9_saint 11 (some .int) ∈ xU := xU_in (List.mem_append_right _ (List.mem_of_getElem? (i := 1251) (by decide +kernel))) (by decide +kernel)
theorem qw1027 : Cond.instanceMethod yX9_saint ∈ xU := xU_in (List.mem_append_right _ (List.mem_of_getElem? (i := 1249) (by decide +kernel))) (by decide +kernel)
theorem qw1028 : Cond.selects RX9 yX9_saint yX9_saint ∈ xU := xU_in (List.mem_append_right _ (List.mem_of_getElem? (i := 1250) (by decide +kernel))) (by decide +kernel)
theorem qw1029 : Cond.code yX9_seed cX9_seed 2 (some .boolean) ∈ xU := xU_in (List.mem_append_right _ (List.mem_of_getElem? (i := 946) (by decide +kernel))) (by decide +kernel)
theorem qw1030 : Cond.instanceMethod yX9_seed ∈ xU := xU_in (List.mem_append_right _ (List.mem_of_getElem? (i := 944) (by decide +kernel))) (by decide +kernel)
theorem qw1031 : Cond.selects RX9 yX9_seed yX9_seed ∈ xU := xU_in (List.mem_append_right _ (List.mem_of_getElem? (i := 945) (by decide +kernel))) (by decide +kernel)
theorem qw1032 : Cond.code yX9_seen cX9_seen 2 (some .int) ∈ xU := xU_in (List.mem_append_right _ (List.mem_of_getElem? (i := 1266) (by decide +kernel))) (by decide +kernel)
theorem qw1033 : Cond.instanceMethod yX9_seen ∈ xU := xU_in (List.mem_append_right _ (List.mem_of_getElem? (i := 1264) (by decide +kernel))) (by decide +kernel)
theorem qw1034 : Cond.selects RX9 yX9_seen yX9_seen ∈ xU := xU_in (List.mem_append_right _ (List.mem_of_getElem? (i := 1265) (by decide +kernel))) (by decide +kernel)
theorem qw1035 : Cond.code yX9_sister cX9_sister 2 (some .int) ∈ xU := xU_in (List.mem_append_right _ (List.mem_of_getElem? (i := 935) (by decide +kernel))) (by decide +kernel)
theorem qw1036 : Cond.instanceMethod yX9_sister ∈ xU := xU_in (List.mem_append_right _ (List.mem_of_getElem? (i := 933) (by decide +kernel))) (by decide +kernel)
theorem qw1037 : Cond.selects RX9 yX9_sister yX9_sister ∈ xU := xU_in (List.mem_append_right _ (List.mem_of_getElem? (i := 934) (by decide +kernel))) (by decide +kernel)
theorem qw1038 : Cond.code yX9_sisterOf cX9_sisterOf 4 (some .int) ∈ xU := xU_in (List.mem_append_right _ (List.mem_of_getElem? (i := 1214) (by decide +kernel))) (by decide +kernel)
theorem qw1039 : Cond.instanceMethod yX9_sisterOf ∈ xU := xU_in (List.mem_append_right _ (List.mem_of_getElem? (i := 1212) (by decide +kernel))) (by decide +kernel)
theorem qw1040 : Cond.selects RX9 yX9_sisterOf yX9_sisterOf ∈ xU := xU_in (List.mem_append_right _ (List.mem_of_getElem? (i := 1213) (by decide +kernel))) (by decide +kernel)
theorem qw1041 : Cond.code yX9_slices cX9_slices 3 (some .int) ∈ xU := xU_in (List.mem_append_right _ (List.mem_of_getElem? (i := 1099) (by decide +kernel))) (by decide +kernel)
theorem qw1042 : Cond.instanceMethod yX9_slices ∈ xU := xU_in (List.mem_append_right _ (List.mem_of_getElem? (i := 1097) (by decide +kernel))) (by decide +kernel)
theorem qw1043 : Cond.selects RX9 yX9_slices yX9_slices ∈ xU := xU_in (List.mem_append_right _ (List.mem_of_getElem? (i := 1098) (by decide +kernel))) (by decide +kernel)
theorem qw1044 : Cond.code yX9_text cX9_text 1 (some .int) ∈ xU := xU_in (List.mem_append_right _ (List.mem_of_getElem? (i := 962) (by decide +kernel))) (by decide +kernel)
theorem qw1045 : Cond.instanceMethod yX9_text ∈ xU := xU_in (List.mem_append_right _ (List.mem_of_getElem? (i := 960) (by decide +kernel))) (by decide +kernel)
theorem qw1046 : Cond.selects RX9 yX9_text yX9_text ∈ xU := xU_in (List.mem_append_right _ (List.mem_of_getElem? (i := 961) (by decide +kernel))) (by decide +kernel)
theorem qw1047 : Cond.code yX9_undo cX9_undo 3 (some .int) ∈ xU := xU_in (List.mem_append_right _ (List.mem_of_getElem? (i := 1135) (by decide +kernel))) (by decide +kernel)
theorem qw1048 : Cond.instanceMethod yX9_undo ∈ xU := xU_in (List.mem_append_right _ (List.mem_of_getElem? (i := 1133) (by decide +kernel))) (by decide +kernel)
theorem qw1049 : Cond.selects RX9 yX9_undo yX9_undo ∈ xU := xU_in (List.mem_append_right _ (List.mem_of_getElem? (i := 1134) (by decide +kernel))) (by decide +kernel)
theorem qw1050 : Cond.code yX9_who cX9_who 6 (some .int) ∈ xU := xU_in (List.mem_append_right _ (List.mem_of_getElem? (i := 1270) (by decide +kernel))) (by decide +kernel)
theorem qw1051 : Cond.instanceMethod yX9_who ∈ xU := xU_in (List.mem_append_right _ (List.mem_of_getElem? (i := 1268) (by decide +kernel))) (by decide +kernel)
theorem qw1052 : Cond.selects RX9 yX9_who yX9_who ∈ xU := xU_in (List.mem_append_right _ (List.mem_of_getElem? (i := 1269) (by decide +kernel))) (by decide +kernel)
theorem okX8_about : xokV RX8 yX8_about cX8_about 2 (some .int) 1 := ⟨qw916, qw917, qw623, qw915, by decide +kernel⟩
theorem okX8_apart : xokV RX8 yX8_apart cX8_apart 2 (some .int) 1 := ⟨qw919, qw920, qw623, qw918, by decide +kernel⟩
theorem okX8_back : xokV RX8 yX8_back cX8_back 1 (some .int) 0 := ⟨qw922, qw923, qw623, qw921, by decide +kernel⟩
theorem okX8_by : xokV RX8 yX8_by cX8_by 2 (some .boolean) 1 := ⟨qw925, qw926, qw623, qw924, by decide +kernel⟩
theorem okX8_comes : xokV RX8 yX8_comes cX8_comes 4 (some .int) 3 := ⟨qw928, qw929, qw623, qw927, by decide +kernel⟩
theorem okX8_end : xokV RX8 yX8_end cX8_end 2 (some .int) 1 := ⟨qw931, qw932, qw623, qw930, by decide +kernel⟩
theorem okX8_fault : xokV RX8 yX8_fault cX8_fault 2 (some .int) 1 := ⟨qw934, qw935, qw623, qw933, by decide +kernel⟩
theorem okX8_feed : xokV RX8 yX8_feed cX8_feed 6 (some .int) 5 := ⟨qw937, qw938, qw623, qw936, by decide +kernel⟩
theorem okX8_flour : xokV RX8 yX8_flour cX8_flour 7 (some .int) 3 := ⟨qw940, qw941, qw623, qw939, by decide +kernel⟩
theorem okX8_image : xokV RX8 yX8_image cX8_image 1 (some .int) 0 := ⟨qw943, qw944, qw623, qw942, by decide +kernel⟩
theorem okX8_mice : xokV RX8 yX8_mice cX8_mice 2 (some .boolean) 1 := ⟨qw946, qw947, qw623, qw945, by decide +kernel⟩
theorem okX8_odds : xokV RX8 yX8_odds cX8_odds 11 (some .long) 4 := ⟨qw949, qw950, qw623, qw948, by decide +kernel⟩
theorem okX8_of : xokV RX8 yX8_of cX8_of 3 (some .int) 2 := ⟨qw952, qw953, qw623, qw951, by decide +kernel⟩
theorem okX8_played : xokV RX8 yX8_played cX8_played 7 (some .int) 1 := ⟨qw955, qw956, qw623, qw954, by decide +kernel⟩
theorem okX8_saint : xokV RX8 yX8_saint cX8_saint 6 (some .int) 4 := ⟨qw958, qw959, qw623, qw957, by decide +kernel⟩
theorem okX8_seed : xokV RX8 yX8_seed cX8_seed 2 (some .boolean) 1 := ⟨qw961, qw962, qw623, qw960, by decide +kernel⟩
theorem okX8_seen : xokV RX8 yX8_seen cX8_seen 2 (some .int) 1 := ⟨qw964, qw965, qw623, qw963, by decide +kernel⟩
theorem okX8_sister : xokV RX8 yX8_sister cX8_sister 2 (some .int) 1 := ⟨qw967, qw968, qw623, qw966, by decide +kernel⟩
theorem okX8_sisterOf : xokV RX8 yX8_sisterOf cX8_sisterOf 3 (some .int) 2 := ⟨qw970, qw971, qw623, qw969, by decide +kernel⟩
theorem okX8_slices : xokV RX8 yX8_slices cX8_slices 3 (some .int) 2 := ⟨qw973, qw974, qw623, qw972, by decide +kernel⟩
theorem okX8_text : xokV RX8 yX8_text cX8_text 3 (some .int) 0 := ⟨qw976, qw977, qw623, qw975, by decide +kernel⟩
theorem okX8_undo : xokV RX8 yX8_undo cX8_undo 1 (some .int) 0 := ⟨qw979, qw980, qw623, qw978, by decide +kernel⟩
theorem okX8_who : xokV RX8 yX8_who cX8_who 4 (some .int) 3 := ⟨qw982, qw983, qw623, qw981, by decide +kernel⟩
theorem okX9_about : xokV RX9 yX9_about cX9_about 2 (some .int) 1 := ⟨qw985, qw986, qw649, qw984, by decide +kernel⟩
theorem okX9_apart : xokV RX9 yX9_apart cX9_apart 3 (some .int) 1 := ⟨qw988, qw989, qw649, qw987, by decide +kernel⟩
theorem okX9_back : xokV RX9 yX9_back cX9_back 1 (some .int) 0 := ⟨qw991, qw992, qw649, qw990, by decide +kernel⟩
theorem okX9_by : xokV RX9 yX9_by cX9_by 2 (some .boolean) 1 := ⟨qw994, qw995, qw649, qw993, by decide +kernel⟩
theorem okX9_comes : xokV RX9 yX9_comes cX9_comes 5 (some .int) 3 := ⟨qw997, qw998, qw649, qw996, by decide +kernel⟩
theorem okX9_end : xokV RX9 yX9_end cX9_end 2 (some .int) 1 := ⟨qw1000, qw1001, qw649, qw999, by decide +kernel⟩
theorem okX9_fault : xokV RX9 yX9_fault cX9_fault 2 (some .int) 1 := ⟨qw1003, qw1004, qw649, qw1002, by decide +kernel⟩
theorem okX9_feed : xokV RX9 yX9_feed cX9_feed 6 (some .int) 5 := ⟨qw1006, qw1007, qw649, qw1005, by decide +kernel⟩
theorem okX9_flour : xokV RX9 yX9_flour cX9_flour 6 (some .int) 3 := ⟨qw1009, qw1010, qw649, qw1008, by decide +kernel⟩
theorem okX9_image : xokV RX9 yX9_image cX9_image 1 (some .int) 0 := ⟨qw1012, qw1013, qw649, qw1011, by decide +kernel⟩
theorem okX9_mice : xokV RX9 yX9_mice cX9_mice 2 (some .boolean) 1 := ⟨qw1015, qw1016, qw649, qw1014, by decide +kernel⟩
theorem okX9_odds : xokV RX9 yX9_odds cX9_odds 11 (some .long) 4 := ⟨qw1018, qw1019, qw649, qw1017, by decide +kernel⟩
theorem okX9_of : xokV RX9 yX9_of cX9_of 3 (some .int) 2 := ⟨qw1021, qw1022, qw649, qw1020, by decide +kernel⟩
theorem okX9_played : xokV RX9 yX9_played cX9_played 3 (some .int) 1 := ⟨qw1024, qw1025, qw649, qw1023, by decide +kernel⟩
theorem okX9_saint : xokV RX9 yX9_saint cX9_saint 11 (some .int) 4 := ⟨qw1027, qw1028, qw649, qw1026, by decide +kernel⟩
theorem okX9_seed : xokV RX9 yX9_seed cX9_seed 2 (some .boolean) 1 := ⟨qw1030, qw1031, qw649, qw1029, by decide +kernel⟩
theorem okX9_seen : xokV RX9 yX9_seen cX9_seen 2 (some .int) 1 := ⟨qw1033, qw1034, qw649, qw1032, by decide +kernel⟩
theorem okX9_sister : xokV RX9 yX9_sister cX9_sister 2 (some .int) 1 := ⟨qw1036, qw1037, qw649, qw1035, by decide +kernel⟩
theorem okX9_sisterOf : xokV RX9 yX9_sisterOf cX9_sisterOf 4 (some .int) 2 := ⟨qw1039, qw1040, qw649, qw1038, by decide +kernel⟩
theorem okX9_slices : xokV RX9 yX9_slices cX9_slices 3 (some .int) 2 := ⟨qw1042, qw1043, qw649, qw1041, by decide +kernel⟩
theorem okX9_text : xokV RX9 yX9_text cX9_text 1 (some .int) 0 := ⟨qw1045, qw1046, qw649, qw1044, by decide +kernel⟩
theorem okX9_undo : xokV RX9 yX9_undo cX9_undo 3 (some .int) 0 := ⟨qw1048, qw1049, qw649, qw1047, by decide +kernel⟩
theorem okX9_who : xokV RX9 yX9_who cX9_who 6 (some .int) 3 := ⟨qw1051, qw1052, qw649, qw1050, by decide +kernel⟩
/-! ROWS OF THE LAW: two pools, the class's and the reference's, side by side -/
theorem xU_tbl {w : Cond} (h : w ∈ xU) : w ∈ lw_tbl := (List.mem_filter.mp h).1
theorem xP.kept {G : xG} {Y : xY} {S : xS} {H H1 : Heap} (h : xP G Y S H) (hk : ∀ q : Nat, q < H.size → xA G Y q → H1[q]? = H[q]?) : xP G Y S H1 := by
  refine va_P.kept h (fun k x hx => ?_)
  by_cases hl : k < Y.length
  · have hlt := (h k x hx).lt
    rw [xw_get hl] at hx
    cases hx
    exact hk _ hlt ⟨k, hl, rfl⟩
  · rw [xw_none hl] at hx
    cases hx
abbrev yA (s : State) : Nat → Prop := fun q => s.heap.size ≤ q
/-- what holds all through the law's loop -/
def yZ (p : Program) (s : State) (m : MethodId) (meth : Method) (c : Code) (b L : Nat) (xs : Nat → Int32) (Gc Gm : xG) : Prop :=
  p.tables.exec = Jvm.exec ∧ c.code = code ∧ c.maxLocals = 4 ∧ s.vm.findClass RL = some m.cls ∧ (∀ w ∈ xU, w.before #[Value.ref b] s = true) ∧ meth.sig.returnType = ret ∧ meth.locks = false ∧
  (va_K Gc.1 vwCl (xt Gc) s ∧ xE Gc (yA s) s s.heap ∧ xJ Gc Yc ∧ (∀ q, xA Gc Yc q → yA s q)) ∧ (va_K Gm.1 vwCl (xt Gm) s ∧ xE Gm (yA s) s s.heap ∧ xJ Gm Ym ∧ (∀ q, xA Gm Ym q → yA s q)) ∧ (∀ q, xA Gc Yc q → xA Gm Ym q → False) ∧ va_X b L xs s s.heap ∧ b < s.heap.size
section YROWS
variable {p : Program} {l : Launch} {e : Env} {R : Room} {s : State} {m : MethodId} {args : Array Value} {below : List Frame} {meth : Method} {c : Code} {H : Heap} {locs : List Loc} {Q : State → Prop} {cells slots : Nat}
variable {cc : ByteArray} {pc nL : Nat} {ls : Array Slot} {rest st0 : List Value} {own : String} {G G2 : xG} {Y Y2 : xY} {S S' S2 : xS}
variable {y : MethodName} {code' : ByteArray} {nl n f L index : Nat} {rt : Option FieldType} {As : List Value}
theorem y_runV {Qc : Array Value → State → Outcome → State → Prop} (hx : p.tables.exec = Jvm.exec) (hb : c.code = cc) (hml : c.maxLocals = nL) (hown : s.vm.findClass own = some m.cls) (hts : ∀ w ∈ xU, w.before args s = true) (hK : va_K G.1 vwCl (xt G) s ∧ xE G (yA s) s s.heap ∧ xJ G Y ∧ (∀ q, xA G Y q → yA s q)) (hS : va_S (yA s) s.heap H locs) {o ci : Nat} {C : String} {T : u_T} {N : Nat} (hM : xM l y code' nl rt f L G Y (.ref (xad G o) :: As) S Qc) (hl : Cond.methodLink own index y ∈ xU) (hy : xokV C y code' nl rt n) (hR : f + 1 ≤ R.frames ∧ 8 + (nl + 11) + L ≤ R.locals) (hk : xk Y o = ci) (hci : ci < 10) (hc : vwCl[ci]? = some (C, T, N)) (hP : xP G Y S H) (hn : As.length = n) (hsize : ls.size = nL) (hst : st0 = As.reverse ++ .ref (xad G o) :: rest) (hW : (rest.map fun v => v.category).sum ≤ 8) (hdg : decode cc pc = .ok (.invokevirtual index, 3)) (hf : cells ≤ R.cells ∧ slots ≤ R.slots) :
    va_Run p l e R s m args below meth c H locs cells slots 0 0 (F0 m pc ls st0) rest (Qc (Value.ref (xad G o) :: As).toArray) (xA G Y) := by
  obtain ⟨hK, hE, hJ, hA⟩ := hK
  have hce : xce G Y S o = .inr (ci, xfs (xad G) S ci o) := by unfold xce; rw [hk, if_pos hci]
  refine va_runV (C := C) (bytes := code') (maxL := nl) (ret := rt) (n := n) (nL := nL) (Ts := xU) (own := own) (index := index) ⟨hx, hb, hml, hown, hts⟩ hM (cwV n hts (xokV_good hl hy) rfl rfl rfl hy.2.2.2.2 hR) ⟨xPc_blind _ _ _ _, va_recv (q := (C, T, N)) hK hP hc (q0 := o) (ci := ci) (by rw [xw_get (xk_lt hk (by omega)), hce]), fun U hU hWm => ⟨rfl, by rw [hU]; exact hP, va_K.moved hWm.alike hK, ?_, hJ⟩⟩ rfl hn hsize hst (lv_room hW) hdg hf
  rw [hU]
  exact ((hE.kept hS.2.1).narrow hA).warm hWm
theorem y_goi {a : Array Value} {r : Int32} (hr : va_Run p l e R s m args below meth c H locs cells slots 0 0 (F0 m pc ls st0) rest (xQi G Y r S' a) (xA G Y)) (hS : va_S (yA s) s.heap H locs) (hA : ∀ q, xA G Y q → yA s q) (hP2 : xP G2 Y2 S2 H) (hdis : ∀ q, xA G Y q → xA G2 Y2 q → False)
    (kk : ∀ (H : Heap) (locs : List Loc), xP G Y S' H → xP G2 Y2 S2 H → va_S (yA s) s.heap H locs → W p l e R s m args below meth c H locs cells slots Q (F0 m (pc + 3) ls (.int r :: rest))) : W p l e R s m args below meth c H locs cells slots Q (F0 m pc ls st0) := by
  refine va_calli hr hS (fun q _ h => hA q h) hA (fun r' u t H1 locs1 ht hvm hw hB hz1 hk1 hS1 => ?_)
  subst hw
  exact kk H1 locs1 (by rw [← ht]; exact hB) (hP2.kept (fun q hq h2 => hk1 q hq (fun h1 => hdis q h1 h2))) hS1
theorem y_gol {a : Array Value} {r : Int64} (hr : va_Run p l e R s m args below meth c H locs cells slots 0 0 (F0 m pc ls st0) rest (xQl G Y r S' a) (xA G Y)) (hS : va_S (yA s) s.heap H locs) (hA : ∀ q, xA G Y q → yA s q) (hP2 : xP G2 Y2 S2 H) (hdis : ∀ q, xA G Y q → xA G2 Y2 q → False)
    (kk : ∀ (H : Heap) (locs : List Loc), xP G Y S' H → xP G2 Y2 S2 H → va_S (yA s) s.heap H locs → W p l e R s m args below meth c H locs cells slots Q (F0 m (pc + 3) ls (.long r :: rest))) : W p l e R s m args below meth c H locs cells slots Q (F0 m pc ls st0) := by
  refine va_calll hr hS (fun q _ h => hA q h) hA (fun r' u t H1 locs1 ht hvm hw hB hz1 hk1 hS1 => ?_)
  subst hw
  exact kk H1 locs1 (by rw [← ht]; exact hB) (hP2.kept (fun q hq h2 => hk1 q hq (fun h1 => hdis q h1 h2))) hS1
end YROWS
theorem y_in {x : Int32} {i L : Nat} (k : Nat) (e : x = nI i) (hi : i + 6 ≤ L) (hL : L ≤ 3072) (hk : k < 6) : vp_in (x + nI k) L := by
  rw [e, nI_add]
  exact vp_in_nI (by omega) (by omega)
theorem y_in0 {x : Int32} {i L : Nat} (e : x = nI i) (hi : i + 6 ≤ L) (hL : L ≤ 3072) : vp_in x L := by
  rw [e]
  exact vp_in_nI (by omega) (by omega)
theorem lg_self (x : Int64) : lg_cmp x x = 0 := by
  unfold lg_cmp
  rw [if_neg (fun h => absurd h Int64.lt_irrefl), if_pos rfl]
theorem y_exit {x : Int32} {i L : Nat} (e : x = nI i) (hi : i ≤ L) (hL : L ≤ 3072) : (nI L - 6 < x) ↔ L < i + 6 := by
  have h6 : (6 : Int32) = nI 6 := rfl
  rw [Int32.lt_iff_toInt_lt, e, h6, pk_sub_toInt (by omega) (by omega), nI_toInt (by omega)]
  omega
def sim_sister (Rel : xS → xS → Prop) : Prop := ∀ (Sc Sm : xS) (a0 : Int32) , Rel Sc Sm → ∃ (r : Int32) (Sc' Sm' : xS), mX8_sister Sc 0 a0 = some (r, Sc') ∧ mX9_sister Sm 0 a0 = some (r, Sm') ∧ Rel Sc' Sm'
def sim_mice (Rel : xS → xS → Prop) : Prop := ∀ (Sc Sm : xS) (a0 : Int32) , Rel Sc Sm → ∃ (r : Int32) (Sc' Sm' : xS), mX8_mice Sc 0 a0 = some (r, Sc') ∧ mX9_mice Sm 0 a0 = some (r, Sm') ∧ Rel Sc' Sm'
def sim_seed (Rel : xS → xS → Prop) : Prop := ∀ (Sc Sm : xS) (a0 : Int32) , Rel Sc Sm → ∃ (r : Int32) (Sc' Sm' : xS), mX8_seed Sc 0 a0 = some (r, Sc') ∧ mX9_seed Sm 0 a0 = some (r, Sm') ∧ Rel Sc' Sm'
def sim_feed (Rel : xS → xS → Prop) : Prop := ∀ (Sc Sm : xS) (a0 a1 a2 a3 a4 : Int32) , Rel Sc Sm → ∃ (r : Int32) (Sc' Sm' : xS), mX8_feed Sc 0 a0 a1 a2 a3 a4 = some (r, Sc') ∧ mX9_feed Sm 0 a0 a1 a2 a3 a4 = some (r, Sm') ∧ Rel Sc' Sm'
def sim_end (Rel : xS → xS → Prop) : Prop := ∀ (Sc Sm : xS) (a0 : Int32) , Rel Sc Sm → ∃ (r : Int32) (Sc' Sm' : xS), mX8_end Sc 0 a0 = some (r, Sc') ∧ mX9_end Sm 0 a0 = some (r, Sm') ∧ Rel Sc' Sm'
def sim_text (Rel : xS → xS → Prop) : Prop := ∀ (Sc Sm : xS), Rel Sc Sm → ∃ (r : Int32) (Sc' Sm' : xS), mX8_text Sc 0  = some (r, Sc') ∧ mX9_text Sm 0  = some (r, Sm') ∧ Rel Sc' Sm'
def sim_fault (Rel : xS → xS → Prop) : Prop := ∀ (Sc Sm : xS) (a0 : Int32) , Rel Sc Sm → ∃ (r : Int32) (Sc' Sm' : xS), mX8_fault Sc 0 a0 = some (r, Sc') ∧ mX9_fault Sm 0 a0 = some (r, Sm') ∧ Rel Sc' Sm'
def sim_by (Rel : xS → xS → Prop) : Prop := ∀ (Sc Sm : xS) (a0 : Int32) , Rel Sc Sm → ∃ (r : Int32) (Sc' Sm' : xS), mX8_by Sc 0 a0 = some (r, Sc') ∧ mX9_by Sm 0 a0 = some (r, Sm') ∧ Rel Sc' Sm'
def sim_slices (Rel : xS → xS → Prop) : Prop := ∀ (Sc Sm : xS) (a0 a1 : Int32) , Rel Sc Sm → ∃ (r : Int32) (Sc' Sm' : xS), mX8_slices Sc 0 a0 a1 = some (r, Sc') ∧ mX9_slices Sm 0 a0 a1 = some (r, Sm') ∧ Rel Sc' Sm'
def sim_seat (Rel : xS → xS → Prop) : Prop := ∀ (Sc Sm : xS) (a0 a1 : Int32) , Rel Sc Sm → ∃ (r : Int32) (Sc' Sm' : xS), mX8_seat Sc 0 a0 a1 = some (r, Sc') ∧ mX9_seat Sm 0 a0 a1 = some (r, Sm') ∧ Rel Sc' Sm'
def sim_hide (Rel : xS → xS → Prop) : Prop := ∀ (Sc Sm : xS) (a0 a1 : Int32) , Rel Sc Sm → ∃ (r : Int32) (Sc' Sm' : xS), mX8_hide Sc 0 a0 a1 = some (r, Sc') ∧ mX9_hide Sm 0 a0 a1 = some (r, Sm') ∧ Rel Sc' Sm'
def sim_give (Rel : xS → xS → Prop) : Prop := ∀ (Sc Sm : xS) (a0 a1 : Int32) , Rel Sc Sm → ∃ (r : Int32) (Sc' Sm' : xS), mX8_give Sc 0 a0 a1 = some (r, Sc') ∧ mX9_give Sm 0 a0 a1 = some (r, Sm') ∧ Rel Sc' Sm'
def sim_pass (Rel : xS → xS → Prop) : Prop := ∀ (Sc Sm : xS) (a0 : Int32) , Rel Sc Sm → ∃ (r : Int32) (Sc' Sm' : xS), mX8_pass Sc 0 a0 = some (r, Sc') ∧ mX9_pass Sm 0 a0 = some (r, Sm') ∧ Rel Sc' Sm'
def sim_played (Rel : xS → xS → Prop) : Prop := ∀ (Sc Sm : xS) (a0 : Int32) , Rel Sc Sm → ∃ (r : Int32) (Sc' Sm' : xS), mX8_played Sc 0 a0 = some (r, Sc') ∧ mX9_played Sm 0 a0 = some (r, Sm') ∧ Rel Sc' Sm'
def sim_undo (Rel : xS → xS → Prop) : Prop := ∀ (Sc Sm : xS), Rel Sc Sm → ∃ (r : Int32) (Sc' Sm' : xS), mX8_undo Sc 0  = some (r, Sc') ∧ mX9_undo Sm 0  = some (r, Sm') ∧ Rel Sc' Sm'
def sim_of (Rel : xS → xS → Prop) : Prop := ∀ (Sc Sm : xS) (a0 a1 : Int32) , Rel Sc Sm → ∃ (r : Int32) (Sc' Sm' : xS), mX8_of Sc 0 a0 a1 = some (r, Sc') ∧ mX9_of Sm 0 a0 a1 = some (r, Sm') ∧ Rel Sc' Sm'
def sim_sisterOf (Rel : xS → xS → Prop) : Prop := ∀ (Sc Sm : xS) (a0 a1 : Int32) , Rel Sc Sm → ∃ (r : Int32) (Sc' Sm' : xS), mX8_sisterOf Sc 0 a0 a1 = some (r, Sc') ∧ mX9_sisterOf Sm 0 a0 a1 = some (r, Sm') ∧ Rel Sc' Sm'
def sim_comes (Rel : xS → xS → Prop) : Prop := ∀ (Sc Sm : xS) (a0 a1 a2 : Int32) , Rel Sc Sm → (a2 = 0 ∨ a2 = 1) → ∃ (r : Int32) (Sc' Sm' : xS), mX8_comes Sc 0 a0 a1 a2 = some (r, Sc') ∧ mX9_comes Sm 0 a0 a1 a2 = some (r, Sm') ∧ Rel Sc' Sm'
def sim_odds (Rel : xS → xS → Prop) : Prop := ∀ (Sc Sm : xS) (a0 a1 a2 a3 : Int32) , Rel Sc Sm → ∃ (r : Int64) (Sc' Sm' : xS), mX8_odds Sc 0 a0 a1 a2 a3 = some (r, Sc') ∧ mX9_odds Sm 0 a0 a1 a2 a3 = some (r, Sm') ∧ Rel Sc' Sm'
def sim_apart (Rel : xS → xS → Prop) : Prop := ∀ (Sc Sm : xS) (a0 : Int32) , Rel Sc Sm → ∃ (r : Int32) (Sc' Sm' : xS), mX8_apart Sc 0 a0 = some (r, Sc') ∧ mX9_apart Sm 0 a0 = some (r, Sm') ∧ Rel Sc' Sm'
def sim_flour (Rel : xS → xS → Prop) : Prop := ∀ (Sc Sm : xS) (a0 a1 a2 : Int32) , Rel Sc Sm → ∃ (r : Int32) (Sc' Sm' : xS), mX8_flour Sc 0 a0 a1 a2 = some (r, Sc') ∧ mX9_flour Sm 0 a0 a1 a2 = some (r, Sm') ∧ Rel Sc' Sm'
def sim_saint (Rel : xS → xS → Prop) : Prop := ∀ (Sc Sm : xS) (a0 a1 a2 a3 : Int32) , Rel Sc Sm → ∃ (r : Int32) (Sc' Sm' : xS), mX8_saint Sc 0 a0 a1 a2 a3 = some (r, Sc') ∧ mX9_saint Sm 0 a0 a1 a2 a3 = some (r, Sm') ∧ Rel Sc' Sm'
def sim_seen (Rel : xS → xS → Prop) : Prop := ∀ (Sc Sm : xS) (a0 : Int32) , Rel Sc Sm → ∃ (r : Int32) (Sc' Sm' : xS), mX8_seen Sc 0 a0 = some (r, Sc') ∧ mX9_seen Sm 0 a0 = some (r, Sm') ∧ Rel Sc' Sm'
def sim_who (Rel : xS → xS → Prop) : Prop := ∀ (Sc Sm : xS) (a0 a1 a2 : Int32) , Rel Sc Sm → ∃ (r : Int32) (Sc' Sm' : xS), mX8_who Sc 0 a0 a1 a2 = some (r, Sc') ∧ mX9_who Sm 0 a0 a1 a2 = some (r, Sm') ∧ Rel Sc' Sm'
def sim_image (Rel : xS → xS → Prop) : Prop := ∀ (Sc Sm : xS), Rel Sc Sm → ∃ (r : Int32) (Sc' Sm' : xS), mX8_image Sc 0  = some (r, Sc') ∧ mX9_image Sm 0  = some (r, Sm') ∧ Rel Sc' Sm'
def sim_back (Rel : xS → xS → Prop) : Prop := ∀ (Sc Sm : xS), Rel Sc Sm → ∃ (r : Int32) (Sc' Sm' : xS), mX8_back Sc 0  = some (r, Sc') ∧ mX9_back Sm 0  = some (r, Sm') ∧ Rel Sc' Sm'
def sim_about (Rel : xS → xS → Prop) : Prop := ∀ (Sc Sm : xS) (a0 : Int32) , Rel Sc Sm → ∃ (r : Int32) (Sc' Sm' : xS), mX8_about Sc 0 a0 = some (r, Sc') ∧ mX9_about Sm 0 a0 = some (r, Sm') ∧ Rel Sc' Sm'

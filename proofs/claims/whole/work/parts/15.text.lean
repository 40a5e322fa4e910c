/-! The text: what its two instructions do. The five methods of the JDK below charAt, one contract each. -/
abbrev tj_y0 : MethodName := ⟨"java/lang/String", "charAt", "(I)C"⟩
abbrev tj_y1 : MethodName := ⟨"java/lang/String", "isLatin1", "()Z"⟩
abbrev tj_y2 : MethodName := ⟨"java/lang/String", "checkIndex", "(II)V"⟩
abbrev tj_y3 : MethodName := ⟨"java/lang/StringLatin1", "charAt", "([BI)C"⟩
abbrev tj_y4 : MethodName := ⟨"jdk/internal/util/Preconditions", "checkIndex", "(IILjava/util/function/BiFunction;)I"⟩
theorem tj_w_c0 : Jvm.Cond.code tj_y0 prog_16_method_56_code 2 (some .char) ∈ lw_tbl := pb_in_2 (List.mem_of_getElem? (i := 233) rfl)
theorem tj_w_c1 : Jvm.Cond.code tj_y1 prog_16_method_154_code 1 (some .boolean) ∈ lw_tbl := pb_in_2 (List.mem_of_getElem? (i := 237) rfl)
theorem tj_w_c2 : Jvm.Cond.code tj_y2 prog_16_method_155_code 2 none ∈ lw_tbl := pb_in_3 (List.mem_of_getElem? (i := 5) rfl)
theorem tj_w_c3 : Jvm.Cond.code tj_y3 prog_17_method_2_code 2 (some .char) ∈ lw_tbl := pb_in_3 (List.mem_of_getElem? (i := 2) rfl)
theorem tj_w_c4 : Jvm.Cond.code tj_y4 prog_21_method_11_code 3 (some .int) ∈ lw_tbl := pb_in_3 (List.mem_of_getElem? (i := 10) rfl)
theorem tj_w_m0_136 : Jvm.Cond.methodLink "PointedBench$Reader" 136 tj_y0 ∈ lw_tbl := pb_in_2 (List.mem_of_getElem? (i := 230) rfl)
theorem tj_w_m1_492 : Jvm.Cond.methodLink "java/lang/String" 492 tj_y1 ∈ lw_tbl := pb_in_2 (List.mem_of_getElem? (i := 234) rfl)
theorem tj_w_m3_495 : Jvm.Cond.methodLink "java/lang/String" 495 tj_y3 ∈ lw_tbl := pb_in_3 (List.mem_of_getElem? (i := 0) rfl)
theorem tj_w_m2_9 : Jvm.Cond.methodLink "java/lang/StringLatin1" 9 tj_y2 ∈ lw_tbl := pb_in_3 (List.mem_of_getElem? (i := 3) rfl)
theorem tj_w_m4_1059 : Jvm.Cond.methodLink "java/lang/String" 1059 tj_y4 ∈ lw_tbl := pb_in_3 (List.mem_of_getElem? (i := 8) rfl)
theorem tj_w_i0 : Jvm.Cond.instanceMethod tj_y0 ∈ lw_tbl := pb_in_2 (List.mem_of_getElem? (i := 231) rfl)
theorem tj_w_i1 : Jvm.Cond.instanceMethod tj_y1 ∈ lw_tbl := pb_in_2 (List.mem_of_getElem? (i := 235) rfl)
theorem tj_w_s2 : Jvm.Cond.static tj_y2 ∈ lw_tbl := pb_in_3 (List.mem_of_getElem? (i := 4) rfl)
theorem tj_w_s3 : Jvm.Cond.static tj_y3 ∈ lw_tbl := pb_in_3 (List.mem_of_getElem? (i := 1) rfl)
theorem tj_w_s4 : Jvm.Cond.static tj_y4 ∈ lw_tbl := pb_in_3 (List.mem_of_getElem? (i := 9) rfl)
theorem tj_w_v0 : Jvm.Cond.selects "java/lang/String" tj_y0 tj_y0 ∈ lw_tbl := pb_in_2 (List.mem_of_getElem? (i := 232) rfl)
theorem tj_w_v1 : Jvm.Cond.selects "java/lang/String" tj_y1 tj_y1 ∈ lw_tbl := pb_in_2 (List.mem_of_getElem? (i := 236) rfl)
theorem tj_w_n0 : Jvm.Cond.initialized "java/lang/String" ∈ lw_tbl := pb_in_1 (List.mem_of_getElem? (i := 15) rfl)
theorem tj_w_n3 : Jvm.Cond.initialized "java/lang/StringLatin1" ∈ lw_tbl := pb_in_1 (List.mem_of_getElem? (i := 16) rfl)
theorem tj_w_n4 : Jvm.Cond.initialized "jdk/internal/util/Preconditions" ∈ lw_tbl := pb_in_1 (List.mem_of_getElem? (i := 17) rfl)
theorem tj_w_f9 : Jvm.Cond.fieldLink "java/lang/String" 9 "java/lang/String" "value" "[B" ∈ lw_tbl := pb_in_8 (List.mem_of_getElem? (i := 165) rfl)
theorem tj_w_f38 : Jvm.Cond.fieldLink "java/lang/String" 38 "java/lang/String" "COMPACT_STRINGS" "Z" ∈ lw_tbl := pb_in_2 (List.mem_of_getElem? (i := 238) rfl)
theorem tj_w_f15 : Jvm.Cond.fieldLink "java/lang/String" 15 "java/lang/String" "coder" "B" ∈ lw_tbl := pb_in_8 (List.mem_of_getElem? (i := 164) rfl)
theorem tj_w_f1053 : Jvm.Cond.fieldLink "java/lang/String" 1053 "jdk/internal/util/Preconditions" "SIOOBE_FORMATTER" "Ljava/util/function/BiFunction;" ∈ lw_tbl := pb_in_3 (List.mem_of_getElem? (i := 6) rfl)
theorem tj_d0_0 : decode prog_16_method_56_code 0 = .ok (.aload_n 0, 1) := by decide +kernel
theorem tj_d0_1 : decode prog_16_method_56_code 1 = .ok (.invokevirtual 492, 3) := by decide +kernel
theorem tj_d0_4 : decode prog_16_method_56_code 4 = .ok (.ifCond .eq 12, 3) := by decide +kernel
theorem tj_d0_7 : decode prog_16_method_56_code 7 = .ok (.aload_n 0, 1) := by decide +kernel
theorem tj_d0_8 : decode prog_16_method_56_code 8 = .ok (.getfield 9, 3) := by decide +kernel
theorem tj_d0_11 : decode prog_16_method_56_code 11 = .ok (.iload_n 1, 1) := by decide +kernel
theorem tj_d0_12 : decode prog_16_method_56_code 12 = .ok (.invokestatic 495, 3) := by decide +kernel
theorem tj_d0_15 : decode prog_16_method_56_code 15 = .ok (.ireturn, 1) := by decide +kernel
theorem tj_d1_0 : decode prog_16_method_154_code 0 = .ok (.getstatic 38, 3) := by decide +kernel
theorem tj_d1_3 : decode prog_16_method_154_code 3 = .ok (.ifCond .eq 14, 3) := by decide +kernel
theorem tj_d1_6 : decode prog_16_method_154_code 6 = .ok (.aload_n 0, 1) := by decide +kernel
theorem tj_d1_7 : decode prog_16_method_154_code 7 = .ok (.getfield 15, 3) := by decide +kernel
theorem tj_d1_10 : decode prog_16_method_154_code 10 = .ok (.ifCond .ne 7, 3) := by decide +kernel
theorem tj_d1_13 : decode prog_16_method_154_code 13 = .ok (.iconst 1, 1) := by decide +kernel
theorem tj_d1_14 : decode prog_16_method_154_code 14 = .ok (.goto 4, 3) := by decide +kernel
theorem tj_d1_18 : decode prog_16_method_154_code 18 = .ok (.ireturn, 1) := by decide +kernel
theorem tj_d2_0 : decode prog_16_method_155_code 0 = .ok (.iload_n 0, 1) := by decide +kernel
theorem tj_d2_1 : decode prog_16_method_155_code 1 = .ok (.iload_n 1, 1) := by decide +kernel
theorem tj_d2_2 : decode prog_16_method_155_code 2 = .ok (.getstatic 1053, 3) := by decide +kernel
theorem tj_d2_5 : decode prog_16_method_155_code 5 = .ok (.invokestatic 1059, 3) := by decide +kernel
theorem tj_d2_8 : decode prog_16_method_155_code 8 = .ok (.pop, 1) := by decide +kernel
theorem tj_d2_9 : decode prog_16_method_155_code 9 = .ok (.return_, 1) := by decide +kernel
theorem tj_d3_0 : decode prog_17_method_2_code 0 = .ok (.iload_n 1, 1) := by decide +kernel
theorem tj_d3_1 : decode prog_17_method_2_code 1 = .ok (.aload_n 0, 1) := by decide +kernel
theorem tj_d3_2 : decode prog_17_method_2_code 2 = .ok (.arraylength, 1) := by decide +kernel
theorem tj_d3_3 : decode prog_17_method_2_code 3 = .ok (.invokestatic 9, 3) := by decide +kernel
theorem tj_d3_6 : decode prog_17_method_2_code 6 = .ok (.aload_n 0, 1) := by decide +kernel
theorem tj_d3_7 : decode prog_17_method_2_code 7 = .ok (.iload_n 1, 1) := by decide +kernel
theorem tj_d3_8 : decode prog_17_method_2_code 8 = .ok (.baload, 1) := by decide +kernel
theorem tj_d3_9 : decode prog_17_method_2_code 9 = .ok (.sipush 255, 3) := by decide +kernel
theorem tj_d3_12 : decode prog_17_method_2_code 12 = .ok (.iand, 1) := by decide +kernel
theorem tj_d3_13 : decode prog_17_method_2_code 13 = .ok (.i2c, 1) := by decide +kernel
theorem tj_d3_14 : decode prog_17_method_2_code 14 = .ok (.ireturn, 1) := by decide +kernel
theorem tj_d4_0 : decode prog_21_method_11_code 0 = .ok (.iload_n 0, 1) := by decide +kernel
theorem tj_d4_1 : decode prog_21_method_11_code 1 = .ok (.ifCond .lt 8, 3) := by decide +kernel
theorem tj_d4_4 : decode prog_21_method_11_code 4 = .ok (.iload_n 0, 1) := by decide +kernel
theorem tj_d4_5 : decode prog_21_method_11_code 5 = .ok (.iload_n 1, 1) := by decide +kernel
theorem tj_d4_6 : decode prog_21_method_11_code 6 = .ok (.if_icmp .lt 10, 3) := by decide +kernel
theorem tj_d4_16 : decode prog_21_method_11_code 16 = .ok (.iload_n 0, 1) := by decide +kernel
theorem tj_d4_17 : decode prog_21_method_11_code 17 = .ok (.ireturn, 1) := by decide +kernel
def tj_Q (v : Option Value) : Array Value → State → Outcome → State → Prop := fun _ st o t => o = .returned v ∧ t.heap = st.heap
def tj_P (base : Nat) (cst : Nat → Nat) (dC : Nat → ClassId) (dI : Nat → Nat → Nat) (cA : Nat → ClassId) (xs : List Int32) (U : State) : Prop := pb_EX base cst dC dI cA xs U U.heap
/-- a method that writes nothing, its answer -/
def tj_M (l : Launch) (base : Nat) (cst : Nat → Nat) (dC : Nat → ClassId) (dI : Nat → Nat → Nat) (cA : Nat → ClassId) (xs : List Int32) (d : Nat) (y : MethodName) (cc : ByteArray) (mL : Nat) (ret : Option FieldType) (av : List Value) (v : Option Value) : Prop :=
  Met l y (.code y cc mL ret :: pb_tbl) (pb_rm d 0 0) (va_Pc av (tj_P base cst dC dI cA xs)) (tj_Q v) 0 0 (fun _ => False)
theorem tj_blind {base : Nat} {cst : Nat → Nat} {dC : Nat → ClassId} {dI : Nat → Nat → Nat} {cA : Nat → ClassId} {xs : List Int32} {av : List Value} : FrameBlind (va_Pc av (tj_P base cst dC dI cA xs)) := by
  intro a U g mk q
  exact ⟨q.1, pb_EX.same rfl q.2⟩
theorem tj_after {p : Program} {l : Launch} {e : Env} {R : Room} {s : State} {m : MethodId} {args : Array Value} {below : List Frame} {meth : Method} {c : Code} {H : Heap} {locs : List Loc} {cells slots : Nat} {Q : State → Prop} {v : Option Value} {av : Array Value} {pc : Nat} {lsA : Array Slot} {st0 rest : List Value} (hr : va_Run p l e R s m args below meth c H locs cells slots 0 0 (F0 m pc lsA st0) rest (tj_Q v av) (fun _ => False))
    (kk : W p l e R s m args below meth c H locs cells slots Q (F0 m (pc + 3) lsA (v.toList ++ rest))) : W p l e R s m args below meth c H locs cells slots Q (F0 m pc lsA st0) := by
  intro T hT X
  obtain ⟨v', st₀, t, T', L, h0, X', hL, e1, e2, ⟨hv, hh⟩, st⟩ := hr T hT X
  have hv : v' = v := by injection hv
  subst hv
  have hL0 : L = [] := List.eq_nil_iff_forall_not_mem.mpr (fun q hq => hL q hq)
  subst hL0
  rw [List.append_nil] at X'
  obtain ⟨t2, a1, b1⟩ := kk T' (by rw [e1, hh, h0]) X'
  exact ⟨t2, st t2 a1, b1⟩
theorem tj_good {w : List Jvm.Cond} {c : Jvm.Cond} (hw : ∀ x ∈ w, x ∈ pb_tbl) (hc : c ∈ pb_tbl) : GoodIn pb_tbl (w ++ c :: pb_tbl) := pb_good (fun x hx => by
  rcases List.mem_append.mp hx with q | q
  · exact hw x q
  · rcases List.mem_cons.mp q with rfl | q
    · exact hc
    · exact q)
theorem tj_c4n {l : Launch} {base : Nat} {cst : Nat → Nat} {dC : Nat → ClassId} {dI : Nat → Nat → Nat} {cA : Nat → ClassId} {xs : List Int32} {d : Nat} {i n : Int32} (h0 : ¬ i < 0) (h1 : i < n) : tj_M l base cst dC dI cA xs d tj_y4 prog_21_method_11_code 3 (some .int) [.int i, .int n, .null] (some (.int i)) := by
  refine Met.ofW (cc := prog_21_method_11_code) (maxL := 3) (ret := (some .int)) (by decide) rfl ?_
  intro p e s m args below meth c s₁ B hml hv
  obtain ⟨rfl, hE⟩ := hv
  have hE : pb_EX base cst dC dI cA xs s s.heap := hE
  have hx := B.exec
  have hb := B.bytes
  have hr := B.returns
  have hlocks := B.notSynchronized
  have hts0 := atoms_spec (ws := .code tj_y4 prog_21_method_11_code 3 (some .int) :: pb_tbl) B.pre
  have hts : ∀ w ∈ pb_tbl, w.before ([.int i, .int n, .null] : List Value).toArray s = true := fun w hw => hts0 w (List.mem_cons_of_mem _ hw)
  have hown : s.vm.findClass "jdk/internal/util/Preconditions" = some m.cls := findClass_of_methodNamed B.named
  have hS : va_S (pb_up base) s.heap s.heap [] := va_S.rf
  have hl := lv_entry ([.int i, .int n, .null]) (n := 3) (Nat.le_of_ble_eq_true rfl)
  rw [lg_entry_eq]
  generalize (lg_sl ([.int i, .int n, .null]) ++ List.replicate (3 - (lg_sl ([.int i, .int n, .null])).length) Slot.unset).toArray = ls at hl ⊢
  have hl : lv_has ls 3 [(0, .int i), (1, .int n), (2, .null)] := hl
  refine lv_iload_n hx hb tj_d4_0 rfl (lv_at hl 0 rfl) ?_
  refine lv_if_lt (tgt := 9) hx hb tj_d4_1 rfl (fun q => absurd q h0) (fun _ => ?_)
  refine lv_iload_n hx hb tj_d4_4 rfl (lv_at hl 0 rfl) ?_
  refine lv_iload_n hx hb tj_d4_5 rfl (lv_at hl 1 rfl) ?_
  refine lv_icmp_lt (tgt := 16) hx hb tj_d4_6 rfl (fun _ => ?_) (fun q => absurd h1 q)
  refine lv_iload_n hx hb tj_d4_16 rfl (lv_at hl 0 rfl) ?_
  exact W.iret hx hb hr (fun t ht _ => ⟨rfl, ht⟩) (fun q hq => by cases hq) tj_d4_17
theorem tj_c4r {l : Launch} {base : Nat} {cst : Nat → Nat} {dC : Nat → ClassId} {dI : Nat → Nat → Nat} {cA : Nat → ClassId} {xs : List Int32} {d : Nat} {i n : Int32} {t : Nat} (h0 : ¬ i < 0) (h1 : i < n) : tj_M l base cst dC dI cA xs d tj_y4 prog_21_method_11_code 3 (some .int) [.int i, .int n, .ref t] (some (.int i)) := by
  refine Met.ofW (cc := prog_21_method_11_code) (maxL := 3) (ret := (some .int)) (by decide) rfl ?_
  intro p e s m args below meth c s₁ B hml hv
  obtain ⟨rfl, hE⟩ := hv
  have hE : pb_EX base cst dC dI cA xs s s.heap := hE
  have hx := B.exec
  have hb := B.bytes
  have hr := B.returns
  have hlocks := B.notSynchronized
  have hts0 := atoms_spec (ws := .code tj_y4 prog_21_method_11_code 3 (some .int) :: pb_tbl) B.pre
  have hts : ∀ w ∈ pb_tbl, w.before ([.int i, .int n, .ref t] : List Value).toArray s = true := fun w hw => hts0 w (List.mem_cons_of_mem _ hw)
  have hown : s.vm.findClass "jdk/internal/util/Preconditions" = some m.cls := findClass_of_methodNamed B.named
  have hS : va_S (pb_up base) s.heap s.heap [] := va_S.rf
  have hl := lv_entry ([.int i, .int n, .ref t]) (n := 3) (Nat.le_of_ble_eq_true rfl)
  rw [lg_entry_eq]
  generalize (lg_sl ([.int i, .int n, .ref t]) ++ List.replicate (3 - (lg_sl ([.int i, .int n, .ref t])).length) Slot.unset).toArray = ls at hl ⊢
  have hl : lv_has ls 3 [(0, .int i), (1, .int n), (2, .ref t)] := hl
  refine lv_iload_n hx hb tj_d4_0 rfl (lv_at hl 0 rfl) ?_
  refine lv_if_lt (tgt := 9) hx hb tj_d4_1 rfl (fun q => absurd q h0) (fun _ => ?_)
  refine lv_iload_n hx hb tj_d4_4 rfl (lv_at hl 0 rfl) ?_
  refine lv_iload_n hx hb tj_d4_5 rfl (lv_at hl 1 rfl) ?_
  refine lv_icmp_lt (tgt := 16) hx hb tj_d4_6 rfl (fun _ => ?_) (fun q => absurd h1 q)
  refine lv_iload_n hx hb tj_d4_16 rfl (lv_at hl 0 rfl) ?_
  exact W.iret hx hb hr (fun t ht _ => ⟨rfl, ht⟩) (fun q hq => by cases hq) tj_d4_17
theorem tj_c2 {l : Launch} {base : Nat} {cst : Nat → Nat} {dC : Nat → ClassId} {dI : Nat → Nat → Nat} {cA : Nat → ClassId} {xs : List Int32} {d : Nat} {i n : Int32} (h0 : ¬ i < 0) (h1 : i < n) : tj_M l base cst dC dI cA xs (d + 1) tj_y2 prog_16_method_155_code 2 none [.int i, .int n] none := by
  refine Met.ofW (cc := prog_16_method_155_code) (maxL := 2) (ret := none) (by decide) rfl ?_
  intro p e s m args below meth c s₁ B hml hv
  obtain ⟨rfl, hE⟩ := hv
  have hE : pb_EX base cst dC dI cA xs s s.heap := hE
  have hx := B.exec
  have hb := B.bytes
  have hr := B.returns
  have hlocks := B.notSynchronized
  have hts0 := atoms_spec (ws := .code tj_y2 prog_16_method_155_code 2 none :: pb_tbl) B.pre
  have hts : ∀ w ∈ pb_tbl, w.before ([.int i, .int n] : List Value).toArray s = true := fun w hw => hts0 w (List.mem_cons_of_mem _ hw)
  have hown : s.vm.findClass "java/lang/String" = some m.cls := findClass_of_methodNamed B.named
  have hS : va_S (pb_up base) s.heap s.heap [] := va_S.rf
  have hl := lv_entry ([.int i, .int n]) (n := 2) (Nat.le_of_ble_eq_true rfl)
  rw [lg_entry_eq]
  generalize (lg_sl ([.int i, .int n]) ++ List.replicate (2 - (lg_sl ([.int i, .int n])).length) Slot.unset).toArray = ls at hl ⊢
  have hl : lv_has ls 2 [(0, .int i), (1, .int n)] := hl
  refine lv_iload_n hx hb tj_d2_0 rfl (lv_at hl 0 rfl) ?_
  refine lv_iload_n hx hb tj_d2_1 rfl (lv_at hl 1 rfl) ?_
  obtain ⟨adV, _, _, _, hZ⟩ := hE.2.2.2.2.2
  rcases hZ with hZ | ⟨t, hZ⟩
  · refine va_gets (own := "java/lang/String") (ref := "jdk/internal/util/Preconditions") hx hb hZ hS hown (hts _ (pb_tbl_in tj_w_f1053 rfl)) (fun _ q => q) tj_d2_2 ?_
    refine tj_after (va_runS (As := [.int i, .int n, .null]) (rest := []) ⟨hx, hb, hml, hown, hts⟩ (tj_c4n (d := d) h0 h1) ⟨callB_of 3 hts (tj_good (w := []) (fun _ z => by cases z) (pb_tbl_in tj_w_c4 rfl)) rfl rfl rfl (hts _ (pb_tbl_in tj_w_n4 rfl)) (hts _ (pb_tbl_in tj_w_m4_1059 rfl)) ⟨by decide, by decide, by decide +kernel⟩ ⟨by show d + 1 ≤ (d + 1); omega, by show 8 + (3 + 11) + 64 * d ≤ 64 * (d + 1); omega⟩, hts _ (pb_tbl_in tj_w_s4 rfl)⟩ ⟨tj_blind, fun U hU hW => ⟨rfl, by show pb_EX base cst dC dI cA xs U U.heap; rw [hU]; exact hE.go hW hS.2.1⟩⟩ rfl rfl hl.1 rfl (lv_room (by decide)) tj_d2_5 ⟨by omega, by omega⟩) ?_
    refine lv_pop hx hb tj_d2_8 rfl ?_
    exact W.vret hx hb hr (fun t ht _ => ⟨rfl, ht⟩) (fun q hq => by cases hq) tj_d2_9
  · refine va_gets (own := "java/lang/String") (ref := "jdk/internal/util/Preconditions") hx hb hZ hS hown (hts _ (pb_tbl_in tj_w_f1053 rfl)) (fun _ q => q) tj_d2_2 ?_
    refine tj_after (va_runS (As := [.int i, .int n, .ref t]) (rest := []) ⟨hx, hb, hml, hown, hts⟩ (tj_c4r (d := d) h0 h1) ⟨callB_of 3 hts (tj_good (w := []) (fun _ z => by cases z) (pb_tbl_in tj_w_c4 rfl)) rfl rfl rfl (hts _ (pb_tbl_in tj_w_n4 rfl)) (hts _ (pb_tbl_in tj_w_m4_1059 rfl)) ⟨by decide, by decide, by decide +kernel⟩ ⟨by show d + 1 ≤ (d + 1); omega, by show 8 + (3 + 11) + 64 * d ≤ 64 * (d + 1); omega⟩, hts _ (pb_tbl_in tj_w_s4 rfl)⟩ ⟨tj_blind, fun U hU hW => ⟨rfl, by show pb_EX base cst dC dI cA xs U U.heap; rw [hU]; exact hE.go hW hS.2.1⟩⟩ rfl rfl hl.1 rfl (lv_room (by decide)) tj_d2_5 ⟨by omega, by omega⟩) ?_
    refine lv_pop hx hb tj_d2_8 rfl ?_
    exact W.vret hx hb hr (fun t ht _ => ⟨rfl, ht⟩) (fun q hq => by cases hq) tj_d2_9
theorem tj_c1 {l : Launch} {base : Nat} {cst : Nat → Nat} {dC : Nat → ClassId} {dI : Nat → Nat → Nat} {cA : Nat → ClassId} {xs : List Int32} {d : Nat}  : tj_M l base cst dC dI cA xs d tj_y1 prog_16_method_154_code 1 (some .boolean) [.ref (cst 9)] (some (.int 1)) := by
  refine Met.ofW (cc := prog_16_method_154_code) (maxL := 1) (ret := (some .boolean)) (by decide) rfl ?_
  intro p e s m args below meth c s₁ B hml hv
  obtain ⟨rfl, hE⟩ := hv
  have hE : pb_EX base cst dC dI cA xs s s.heap := hE
  have hx := B.exec
  have hb := B.bytes
  have hr := B.returns
  have hlocks := B.notSynchronized
  have hts0 := atoms_spec (ws := .code tj_y1 prog_16_method_154_code 1 (some .boolean) :: pb_tbl) B.pre
  have hts : ∀ w ∈ pb_tbl, w.before ([.ref (cst 9)] : List Value).toArray s = true := fun w hw => hts0 w (List.mem_cons_of_mem _ hw)
  have hown : s.vm.findClass "java/lang/String" = some m.cls := findClass_of_methodNamed B.named
  have hS : va_S (pb_up base) s.heap s.heap [] := va_S.rf
  have hl := lv_entry ([.ref (cst 9)]) (n := 1) (Nat.le_of_ble_eq_true rfl)
  rw [lg_entry_eq]
  generalize (lg_sl ([.ref (cst 9)]) ++ List.replicate (1 - (lg_sl ([.ref (cst 9)])).length) Slot.unset).toArray = ls at hl ⊢
  have hl : lv_has ls 1 [(0, .ref (cst 9))] := hl
  obtain ⟨adV, _, hT, hZ, _⟩ := hE.2.2.2.2.2
  refine va_gets (own := "java/lang/String") (ref := "java/lang/String") hx hb hZ hS hown (hts _ (pb_tbl_in tj_w_f38 rfl)) (fun _ q => q) tj_d1_0 ?_
  refine lv_if_eq (tgt := 17) hx hb tj_d1_3 rfl (fun q => absurd q (by decide)) (fun _ => ?_)
  refine lv_aload_n hx hb tj_d1_6 rfl (lv_at hl 0 rfl) ?_
  refine vk_getf (own := "java/lang/String") (ref := "java/lang/String") hx hb (hT.1 0 (by decide)).2.1 hS hown (hts _ (pb_tbl_in tj_w_f15 rfl)) (fun _ q => q) tj_d1_7 ?_
  refine lv_if_ne (tgt := 17) hx hb tj_d1_10 rfl (fun q => absurd rfl q) (fun _ => ?_)
  refine lv_iconst (v := 1) hx hb tj_d1_13 rfl ?_
  refine lv_goto (tgt := 18) hx hb tj_d1_14 rfl ?_
  exact W.zret hx hb hr (by decide) (fun t ht _ => ⟨rfl, ht⟩) (fun q hq => by cases hq) tj_d1_18
theorem tj_lt {i : Int32} (h : 0 ≤ i) (hn : i.toNatClampNeg < 112) : i < 112 := by
  rw [Int32.lt_iff_toInt_lt]
  have h2 := Int32.le_iff_toInt_le.mp h
  have e : (112 : Int32).toInt = 112 := by decide
  have e0 : (0 : Int32).toInt = 0 := by decide
  have e2 : i.toNatClampNeg = i.toInt.toNat := rfl
  rw [e]
  rw [e0] at h2
  omega
theorem tj_wd : ∀ i : Fin 112, ((pb_WD.getD i.val 0 &&& 255).toUInt32 % 65536).toInt32 = pb_WD.getD i.val 0 ∧ narrow .char (.int (pb_WD.getD i.val 0)) = .int (pb_WD.getD i.val 0) := by decide +kernel
def tj_P3 (base : Nat) (cst : Nat → Nat) (dC : Nat → ClassId) (dI : Nat → Nat → Nat) (cA : Nat → ClassId) (xs : List Int32) (v : Nat) (U : State) : Prop := pb_EX base cst dC dI cA xs U U.heap ∧ va_T .byte v 112 (fun j => .int (pb_WD.getD j 0)) (pb_up base) U U.heap
theorem tj_blind3 {base : Nat} {cst : Nat → Nat} {dC : Nat → ClassId} {dI : Nat → Nat → Nat} {cA : Nat → ClassId} {xs : List Int32} {v : Nat} {av : List Value} : FrameBlind (va_Pc av (tj_P3 base cst dC dI cA xs v)) := by
  intro a U g mk q
  exact ⟨q.1, pb_EX.same rfl q.2.1, q.2.2.moved (Vm.Alike.refl _)⟩
theorem tj_c3 {l : Launch} {base : Nat} {cst : Nat → Nat} {dC : Nat → ClassId} {dI : Nat → Nat → Nat} {cA : Nat → ClassId} {xs : List Int32} {d : Nat} {i : Int32} {v : Nat} (h0 : ¬ i < 0) (h1 : i < 112) (hn : i.toNatClampNeg < 112) : Met l tj_y3 (.code tj_y3 prog_17_method_2_code 2 (some .char) :: pb_tbl) (pb_rm (d + 2) 0 0) (va_Pc [.ref v, .int i] (tj_P3 base cst dC dI cA xs v)) (tj_Q (some (.int (pb_WD.getD i.toNatClampNeg 0)))) 0 0 (fun _ => False) := by
  refine Met.ofW (cc := prog_17_method_2_code) (maxL := 2) (ret := (some .char)) (by decide) rfl ?_
  intro p e s m args below meth c s₁ B hml hv
  obtain ⟨rfl, hE, hT⟩ := hv
  have hE : pb_EX base cst dC dI cA xs s s.heap := hE
  have hx := B.exec
  have hb := B.bytes
  have hr := B.returns
  have hlocks := B.notSynchronized
  have hts0 := atoms_spec (ws := .code tj_y3 prog_17_method_2_code 2 (some .char) :: pb_tbl) B.pre
  have hts : ∀ w ∈ pb_tbl, w.before ([.ref v, .int i] : List Value).toArray s = true := fun w hw => hts0 w (List.mem_cons_of_mem _ hw)
  have hown : s.vm.findClass "java/lang/StringLatin1" = some m.cls := findClass_of_methodNamed B.named
  have hS : va_S (pb_up base) s.heap s.heap [] := va_S.rf
  have hl := lv_entry ([.ref v, .int i]) (n := 2) (Nat.le_of_ble_eq_true rfl)
  rw [lg_entry_eq]
  generalize (lg_sl ([.ref v, .int i]) ++ List.replicate (2 - (lg_sl ([.ref v, .int i])).length) Slot.unset).toArray = ls at hl ⊢
  have hl : lv_has ls 2 [(0, .ref v), (1, .int i)] := hl
  refine lv_iload_n hx hb tj_d3_0 rfl (lv_at hl 1 rfl) ?_
  refine lv_aload_n hx hb tj_d3_1 rfl (lv_at hl 0 rfl) ?_
  refine va_tlen (v := 112) hx hb hT hS rfl tj_d3_2 ?_
  refine tj_after (va_runS (As := [.int i, .int 112]) (rest := []) ⟨hx, hb, hml, hown, hts⟩ (tj_c2 (d := d) h0 h1) ⟨callB_of 2 hts (tj_good (w := []) (fun _ z => by cases z) (pb_tbl_in tj_w_c2 rfl)) rfl rfl rfl (hts _ (pb_tbl_in tj_w_n0 rfl)) (hts _ (pb_tbl_in tj_w_m2_9 rfl)) ⟨by decide, by decide, by decide +kernel⟩ ⟨by show (d + 1) + 1 ≤ (d + 2); omega, by show 8 + (2 + 11) + 64 * (d + 1) ≤ 64 * (d + 2); omega⟩, hts _ (pb_tbl_in tj_w_s2 rfl)⟩ ⟨tj_blind, fun U hU hW => ⟨rfl, by show pb_EX base cst dC dI cA xs U U.heap; rw [hU]; exact hE.go hW hS.2.1⟩⟩ rfl rfl hl.1 rfl (lv_room (by decide)) tj_d3_3 ⟨by omega, by omega⟩) ?_
  refine lv_aload_n hx hb tj_d3_6 rfl (lv_at hl 0 rfl) ?_
  refine lv_iload_n hx hb tj_d3_7 rfl (lv_at hl 1 rfl) ?_
  refine va_tb (v := .int (pb_WD.getD i.toNatClampNeg 0)) hx hb hT hS (fun q => by rcases q with q | q; exact absurd q h0; omega) rfl tj_d3_8 ?_
  refine lv_sipush (v := 255) hx hb tj_d3_9 rfl ?_
  refine lv_iand hx hb tj_d3_12 ?_
  refine lv_i2c hx hb tj_d3_13 (tj_wd ⟨_, hn⟩).1 ?_
  exact W.zret hx hb hr (tj_wd ⟨_, hn⟩).2 (fun t ht _ => ⟨rfl, ht⟩) (fun q hq => by cases hq) tj_d3_14
theorem tj_c0 {l : Launch} {base : Nat} {cst : Nat → Nat} {dC : Nat → ClassId} {dI : Nat → Nat → Nat} {cA : Nat → ClassId} {xs : List Int32} {d : Nat} {i : Int32} (h0 : ¬ i < 0) (h1 : i < 112) (hn : i.toNatClampNeg < 112) : tj_M l base cst dC dI cA xs (d + 3) tj_y0 prog_16_method_56_code 2 (some .char) [.ref (cst 9), .int i] (some (.int (pb_WD.getD i.toNatClampNeg 0))) := by
  refine Met.ofW (cc := prog_16_method_56_code) (maxL := 2) (ret := (some .char)) (by decide) rfl ?_
  intro p e s m args below meth c s₁ B hml hv
  obtain ⟨rfl, hE⟩ := hv
  have hE : pb_EX base cst dC dI cA xs s s.heap := hE
  have hx := B.exec
  have hb := B.bytes
  have hr := B.returns
  have hlocks := B.notSynchronized
  have hts0 := atoms_spec (ws := .code tj_y0 prog_16_method_56_code 2 (some .char) :: pb_tbl) B.pre
  have hts : ∀ w ∈ pb_tbl, w.before ([.ref (cst 9), .int i] : List Value).toArray s = true := fun w hw => hts0 w (List.mem_cons_of_mem _ hw)
  have hown : s.vm.findClass "java/lang/String" = some m.cls := findClass_of_methodNamed B.named
  have hS : va_S (pb_up base) s.heap s.heap [] := va_S.rf
  have hl := lv_entry ([.ref (cst 9), .int i]) (n := 2) (Nat.le_of_ble_eq_true rfl)
  rw [lg_entry_eq]
  generalize (lg_sl ([.ref (cst 9), .int i]) ++ List.replicate (2 - (lg_sl ([.ref (cst 9), .int i])).length) Slot.unset).toArray = ls at hl ⊢
  have hl : lv_has ls 2 [(0, .ref (cst 9)), (1, .int i)] := hl
  obtain ⟨adV, _, hT, _, _⟩ := hE.2.2.2.2.2
  obtain ⟨o1, o2, o3, o4⟩ := hT.1 0 (by decide)
  have hrec := vk_recv hT (i := 0) (by decide) hS
  have hg := (tj_good (w := [.methodLink "java/lang/String" 492 tj_y1, .instanceMethod tj_y1, .selects "java/lang/String" tj_y1 tj_y1, .initialized "java/lang/String"]) (fun x hx => by
      simp only [List.mem_cons, List.not_mem_nil, or_false] at hx
      rcases hx with rfl | rfl | rfl | rfl
      · exact pb_tbl_in tj_w_m1_492 rfl
      · exact pb_tbl_in tj_w_i1 rfl
      · exact pb_tbl_in tj_w_v1 rfl
      · exact pb_tbl_in tj_w_n0 rfl) (pb_tbl_in tj_w_c1 rfl))
  refine lv_aload_n hx hb tj_d0_0 rfl (lv_at hl 0 rfl) ?_
  refine tj_after (va_runV (As := []) (rest := []) ⟨hx, hb, hml, hown, hts⟩ (tj_c1 (d := d)) (cwV 0 hts hg rfl rfl rfl ⟨rfl, by decide, by decide, by decide +kernel⟩ ⟨by show d + 1 ≤ d + 3; omega, by show 8 + (1 + 11) + 64 * d ≤ 64 * (d + 3); omega⟩) ⟨tj_blind, hrec, fun U hU hW => ⟨rfl, by show pb_EX base cst dC dI cA xs U U.heap; rw [hU]; exact hE.go hW hS.2.1⟩⟩ rfl rfl hl.1 rfl (lv_room (by decide)) tj_d0_1 ⟨by omega, by omega⟩) ?_
  refine lv_if_eq (tgt := 16) hx hb tj_d0_4 rfl (fun q => absurd q (by decide)) (fun _ => ?_)
  refine lv_aload_n hx hb tj_d0_7 rfl (lv_at hl 0 rfl) ?_
  refine vk_getf (own := "java/lang/String") (ref := "java/lang/String") hx hb o3 hS hown (hts _ (pb_tbl_in tj_w_f9 rfl)) (fun _ q => q) tj_d0_8 ?_
  refine lv_iload_n hx hb tj_d0_11 rfl (lv_at hl 1 rfl) ?_
  refine tj_after (va_runS (As := [.ref (adV 0), .int i]) (rest := []) ⟨hx, hb, hml, hown, hts⟩ (tj_c3 (base := base) (cst := cst) (dC := dC) (dI := dI) (cA := cA) (xs := xs) (v := adV 0) (d := d) h0 h1 hn) ⟨callB_of 2 hts (tj_good (w := []) (fun _ z => by cases z) (pb_tbl_in tj_w_c3 rfl)) rfl rfl rfl (hts _ (pb_tbl_in tj_w_n3 rfl)) (hts _ (pb_tbl_in tj_w_m3_495 rfl)) ⟨by decide, by decide, by decide +kernel⟩ ⟨by show d + 2 + 1 ≤ d + 3; omega, by show 8 + (2 + 11) + 64 * (d + 2) ≤ 64 * (d + 3); omega⟩, hts _ (pb_tbl_in tj_w_s3 rfl)⟩ ⟨tj_blind3, fun U hU hW => ⟨rfl, by rw [hU]; exact hE.go hW hS.2.1, by rw [hU]; exact (o4.moved hW.alike).kept hS.2.1⟩⟩ rfl rfl hl.1 rfl (lv_room (by decide)) tj_d0_12 ⟨by omega, by omega⟩) ?_
  exact W.zret hx hb hr (tj_wd ⟨_, hn⟩).2 (fun t ht _ => ⟨rfl, ht⟩) (fun q hq => by cases hq) tj_d0_15
theorem tj_all (l : Launch) : pb_TX l := by
  intro p e R s m args below meth c Q cc mL ow base cst dC dI cA xs d n0 mx F hd
  obtain ⟨hx, hb, hml, hown, how, hts, hE, _, _, _, hRf, hRl⟩ := F
  refine ⟨fun pc lsA st H locs cells slots e6 hdc hS k => ?_, fun pc lsA st H locs cells slots i e6 hdc hsz hS hi hcl hsl hcat k => ?_⟩
  · subst e6
    obtain ⟨adV, hR, _⟩ := hE.2.2.2.2.2
    exact va_ldcS (own := "PointedBench$Reader") hx hb hown hR hdc k
  · subst e6
    obtain ⟨adV, _, hT, _⟩ := hE.2.2.2.2.2
    have hrec := vk_recv hT (i := 0) (by decide) hS
    have hn : i.toNatClampNeg < 112 := hi.2
    have h0 : ¬ i < 0 := by rw [Int32.not_lt]; exact hi.1
    have h1 : i < 112 := tj_lt hi.1 hn
    have hg := (tj_good (w := [.methodLink "PointedBench$Reader" 136 tj_y0, .instanceMethod tj_y0, .selects "java/lang/String" tj_y0 tj_y0, .initialized "java/lang/String"]) (fun x hx => by
        simp only [List.mem_cons, List.not_mem_nil, or_false] at hx
        rcases hx with rfl | rfl | rfl | rfl
        · exact pb_tbl_in tj_w_m0_136 rfl
        · exact pb_tbl_in tj_w_i0 rfl
        · exact pb_tbl_in tj_w_v0 rfl
        · exact pb_tbl_in tj_w_n0 rfl) (pb_tbl_in tj_w_c0 rfl))
    exact tj_after (va_runV (As := [.int i]) (rest := st) ⟨hx, hb, hml, hown, hts⟩ (tj_c0 (d := 4) h0 h1 hn) (cwV 1 hts hg rfl rfl rfl ⟨rfl, by decide, by decide, by decide +kernel⟩ ⟨by show 4 + 3 + 1 ≤ R.frames; omega, by show 8 + (2 + 11) + 64 * (4 + 3) ≤ R.locals; omega⟩) ⟨tj_blind, hrec, fun U hU hW => ⟨rfl, by show pb_EX base cst dC dI cA xs U U.heap; rw [hU]; exact hE.go hW hS.2.1⟩⟩ rfl rfl hsz rfl (lv_room hcat) hdc ⟨by omega, by omega⟩) k

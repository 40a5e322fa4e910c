def pb_fl : List Jvm.Cond := flatC (Jvm.Cond.and given_1 narrow_1)
def pb_fa (i : Nat) (c : Jvm.Cond) : Bool := decide (pb_fl[i]? = some c)
theorem pb_fa_mem {i : Nat} {c : Jvm.Cond} (h : pb_fa i c = true) : c ∈ flatC (Jvm.Cond.and given_1 narrow_1) := List.mem_of_getElem? (of_decide_eq_true h)
theorem pb_se_1 : (List.range 10).all (fun j => pb_fa (70 + j) (.eq (.elem (.static "PointedBench$Course" "LOTS" "[I") (.int (Int32.ofNat j))) (.int (pb_S1.getD j 0)))) = true := by decide +kernel
theorem pb_sa_1 : pb_fa 68 (.arrayOf (.static "PointedBench$Course" "LOTS" "[I") .int) = true := by decide +kernel
theorem pb_sl_1 : pb_fa 69 (.eq (.length (.static "PointedBench$Course" "LOTS" "[I")) (.int 10)) = true := by decide +kernel
theorem pb_se_2 : (List.range 3).all (fun j => pb_fa (7 + j) (.eq (.elem (.static "PointedBench$Likings" "LAST_TRAIT" "[I") (.int (Int32.ofNat j))) (.int (pb_S2.getD j 0)))) = true := by decide +kernel
theorem pb_sa_2 : pb_fa 5 (.arrayOf (.static "PointedBench$Likings" "LAST_TRAIT" "[I") .int) = true := by decide +kernel
theorem pb_sl_2 : pb_fa 6 (.eq (.length (.static "PointedBench$Likings" "LAST_TRAIT" "[I")) (.int 3)) = true := by decide +kernel
theorem pb_se_3 : (List.range 42).all (fun j => pb_fa (25 + j) (.eq (.elem (.static "PointedBench$Reader" "GREATEST" "[I") (.int (Int32.ofNat j))) (.int (pb_S3.getD j 0)))) = true := by decide +kernel
theorem pb_sa_3 : pb_fa 23 (.arrayOf (.static "PointedBench$Reader" "GREATEST" "[I") .int) = true := by decide +kernel
theorem pb_sl_3 : pb_fa 24 (.eq (.length (.static "PointedBench$Reader" "GREATEST" "[I")) (.int 42)) = true := by decide +kernel
theorem pb_se_4 : (List.range 4).all (fun j => pb_fa (13 + j) (.eq (.elem (.static "PointedBench$Reader" "FIRST_LINE" "[I") (.int (Int32.ofNat j))) (.int (pb_S4.getD j 0)))) = true := by decide +kernel
theorem pb_sa_4 : pb_fa 11 (.arrayOf (.static "PointedBench$Reader" "FIRST_LINE" "[I") .int) = true := by decide +kernel
theorem pb_sl_4 : pb_fa 12 (.eq (.length (.static "PointedBench$Reader" "FIRST_LINE" "[I")) (.int 4)) = true := by decide +kernel
theorem pb_we_0 : (List.range 28).all (fun j => pb_fa (120 + j) (.eq (.elem (.field (.string "PointedBench$Reader" 134) "java/lang/String" "value" "[B") (.int (Int32.ofNat (0 + j)))) (.int (pb_WD.getD (0 + j) 0)))) = true := by decide +kernel
theorem pb_we_28 : (List.range 28).all (fun j => pb_fa (148 + j) (.eq (.elem (.field (.string "PointedBench$Reader" 134) "java/lang/String" "value" "[B") (.int (Int32.ofNat (28 + j)))) (.int (pb_WD.getD (28 + j) 0)))) = true := by decide +kernel
theorem pb_we_56 : (List.range 28).all (fun j => pb_fa (176 + j) (.eq (.elem (.field (.string "PointedBench$Reader" 134) "java/lang/String" "value" "[B") (.int (Int32.ofNat (56 + j)))) (.int (pb_WD.getD (56 + j) 0)))) = true := by decide +kernel
theorem pb_we_84 : (List.range 28).all (fun j => pb_fa (204 + j) (.eq (.elem (.field (.string "PointedBench$Reader" 134) "java/lang/String" "value" "[B") (.int (Int32.ofNat (84 + j)))) (.int (pb_WD.getD (84 + j) 0)))) = true := by decide +kernel
theorem pb_w1 : pb_fa 116 (.exactly (.string "PointedBench$Reader" 134) "java/lang/String") = true := by decide +kernel
theorem pb_w2 : pb_fa 117 (.eq (.field (.string "PointedBench$Reader" 134) "java/lang/String" "coder" "B") (.int 0)) = true := by decide +kernel
theorem pb_w3 : pb_fa 118 (.arrayOf (.field (.string "PointedBench$Reader" 134) "java/lang/String" "value" "[B") .byte) = true := by decide +kernel
theorem pb_w4 : pb_fa 119 (.eq (.length (.field (.string "PointedBench$Reader" 134) "java/lang/String" "value" "[B")) (.int 112)) = true := by decide +kernel
theorem pb_w5 : pb_fa 17 (.eq (.static "java/lang/String" "COMPACT_STRINGS" "Z") (.int 1)) = true := by decide +kernel
theorem pb_w6 : pb_fa 18 (.isRef (.static "jdk/internal/util/Preconditions" "SIOOBE_FORMATTER" "Ljava/util/function/BiFunction;")) = true := by decide +kernel
theorem pb_ys_1 : Jvm.Cond.laysStatic "PointedBench$Course" "LOTS" "[I" ∈ lw_tbl := pb_in_4 (List.mem_of_getElem? (i := 117) rfl)
theorem pb_ys_2 : Jvm.Cond.laysStatic "PointedBench$Likings" "LAST_TRAIT" "[I" ∈ lw_tbl := pb_in_2 (List.mem_of_getElem? (i := 106) rfl)
theorem pb_ys_3 : Jvm.Cond.laysStatic "PointedBench$Reader" "GREATEST" "[I" ∈ lw_tbl := pb_in_3 (List.mem_of_getElem? (i := 40) rfl)
theorem pb_ys_4 : Jvm.Cond.laysStatic "PointedBench$Reader" "FIRST_LINE" "[I" ∈ lw_tbl := pb_in_2 (List.mem_of_getElem? (i := 224) rfl)
theorem pb_ys_5 : Jvm.Cond.laysStatic "java/lang/String" "COMPACT_STRINGS" "Z" ∈ lw_tbl := pb_in_2 (List.mem_of_getElem? (i := 239) rfl)
theorem pb_yi_5 : Jvm.Cond.initialized "java/lang/String" ∈ lw_tbl := pb_in_1 (List.mem_of_getElem? (i := 15) rfl)
theorem pb_ys_6 : Jvm.Cond.laysStatic "jdk/internal/util/Preconditions" "SIOOBE_FORMATTER" "Ljava/util/function/BiFunction;" ∈ lw_tbl := pb_in_3 (List.mem_of_getElem? (i := 7) rfl)
theorem pb_yi_6 : Jvm.Cond.initialized "jdk/internal/util/Preconditions" ∈ lw_tbl := pb_in_1 (List.mem_of_getElem? (i := 17) rfl)
theorem pb_yn : Jvm.Cond.methodLinkNest "PointedBench$County" 77 (pb_y 164) "PointedBench" ∈ lw_tbl := pb_in_4 (List.mem_of_getElem? (i := 184) rfl)
theorem pb_ao_0 : Jvm.Cond.arrayOver (.object "PointedBench$County") ∈ lw_tbl := pb_in_1 (List.mem_of_getElem? (i := 36) rfl)
theorem pb_ao_1 : Jvm.Cond.arrayOver (.object "PointedBench$Lines") ∈ lw_tbl := pb_in_1 (List.mem_of_getElem? (i := 98) rfl)
theorem pb_ao_2 : Jvm.Cond.arrayOver (.object "PointedBench$Told") ∈ lw_tbl := pb_in_1 (List.mem_of_getElem? (i := 168) rfl)
theorem pb_sr : Jvm.Cond.stringRef "PointedBench$Reader" 134 pb_TXT ∈ lw_tbl := pb_in_2 (List.mem_of_getElem? (i := 229) rfl)
/-- an array's maker is known -/
theorem pb_arr {args : Array Value} {s : State} {ty : FieldType} (hp : ∀ C, ty ≠ .object C) (h : (Jvm.Cond.arrayClass ty).before args s = true) : ∃ cA : ClassId, ArrOfT s cA ty ∧ va_RA s cA ty := by
  obtain ⟨c, k, comp, h1, h2, h3⟩ := Cond.arrayClass_spec h
  refine ⟨c, fun n z => ⟨fun k h => (by cases h), k, h2, comp, h3⟩, ?_⟩
  cases ty with
  | object C => exact absurd rfl (hp C)
  | _ => exact h1
theorem pb_arrO {args : Array Value} {s : State} {C : String} (h : (Jvm.Cond.arrayOver (.object C)).before args s = true) : ∃ cA : ClassId, ArrOfT s cA (.object C) ∧ va_RA s cA (.object C) := by
  obtain ⟨comp, c, k, h1, h2, h3, h4, h5⟩ := Cond.arrayOver_spec h
  exact ⟨c, fun n z => ⟨fun k h => (by cases h), k, h3, comp, h4⟩, k, comp, h3, h4, h1, h5⟩
def pb_h0 : pb_HP := (0, fun _ _ => 0, fun _ _ => 0, fun _ _ => none)
set_option maxHeartbeats 4000000 in
/-- what the law's start gives: all that a frame stands on -/
theorem pb_EX0 {s : State} {b L : Nat} {xs : Nat → Int32} (hL : L ≤ 3072) (hts : ∀ w ∈ lw_tbl, w.before #[Value.ref b] s = true) (hX : va_X b L xs s s.heap) (hbl : b < s.heap.size) (hgv : (Jvm.Cond.and given_1 narrow_1).before #[Value.ref b] s = true) :
    ∃ (cst : Nat → Nat) (dC : Nat → ClassId) (dI : Nat → Nat → Nat) (cA : Nat → ClassId), cst 5 = b ∧ pb_EX s.heap.size cst dC dI cA ((List.range L).map xs) s s.heap := by
  have hs := flat_of_before _ hgv
  have hA : ∀ a : Nat, a < s.heap.size → ¬ pb_up s.heap.size a := fun a h z => absurd h (Nat.not_lt.mpr z)
  obtain ⟨t1, ht1, hT1⟩ := va_Tof (tm := (.static "PointedBench$Course" "LOTS" "[I")) (ty := .int) (N := 10) (f := fun j => .int (pb_S1.getD j 0)) (A := pb_up s.heap.size) (by decide) (hs _ (pb_fa_mem pb_sa_1)) (va_eqt (hs _ (pb_fa_mem pb_sl_1))) (fun j hj => va_eqt (hs _ (pb_fa_mem (List.all_eq_true.mp pb_se_1 j (List.mem_range.mpr hj))))) hA
  obtain ⟨t2, ht2, hT2⟩ := va_Tof (tm := (.static "PointedBench$Likings" "LAST_TRAIT" "[I")) (ty := .int) (N := 3) (f := fun j => .int (pb_S2.getD j 0)) (A := pb_up s.heap.size) (by decide) (hs _ (pb_fa_mem pb_sa_2)) (va_eqt (hs _ (pb_fa_mem pb_sl_2))) (fun j hj => va_eqt (hs _ (pb_fa_mem (List.all_eq_true.mp pb_se_2 j (List.mem_range.mpr hj))))) hA
  obtain ⟨t3, ht3, hT3⟩ := va_Tof (tm := (.static "PointedBench$Reader" "GREATEST" "[I")) (ty := .int) (N := 42) (f := fun j => .int (pb_S3.getD j 0)) (A := pb_up s.heap.size) (by decide) (hs _ (pb_fa_mem pb_sa_3)) (va_eqt (hs _ (pb_fa_mem pb_sl_3))) (fun j hj => va_eqt (hs _ (pb_fa_mem (List.all_eq_true.mp pb_se_3 j (List.mem_range.mpr hj))))) hA
  obtain ⟨t4, ht4, hT4⟩ := va_Tof (tm := (.static "PointedBench$Reader" "FIRST_LINE" "[I")) (ty := .int) (N := 4) (f := fun j => .int (pb_S4.getD j 0)) (A := pb_up s.heap.size) (by decide) (hs _ (pb_fa_mem pb_sa_4)) (va_eqt (hs _ (pb_fa_mem pb_sl_4))) (fun j hj => va_eqt (hs _ (pb_fa_mem (List.all_eq_true.mp pb_se_4 j (List.mem_range.mpr hj))))) hA
  obtain ⟨adK, adV, hSs, hSe⟩ := vk_Sof (args := #[Value.ref b]) (s := s) (N := 1) (tm := fun _ => (.string "PointedBench$Reader" 134)) (len := [112]) (byt := [pb_WD]) (A := pb_up s.heap.size) (fun i hi => by rw [show i = 0 by omega]; decide) (fun i hi => hs _ (pb_fa_mem pb_w1)) (fun i hi => hs _ (pb_fa_mem pb_w2)) (fun i hi => hs _ (pb_fa_mem pb_w3)) (fun i hi => by
      rw [show i = 0 by omega]
      exact hs _ (pb_fa_mem pb_w4)) (fun i hi j hj => by
      have hi0 : i = 0 := by omega
      subst hi0
      have hj : j < 112 := hj
      show (Jvm.Cond.eq (.elem (.field (.string "PointedBench$Reader" 134) "java/lang/String" "value" "[B") (.int (Int32.ofNat j))) (.int (pb_WD.getD j 0))).before #[Value.ref b] s = true
      rcases Nat.lt_or_ge j 28 with q | q
      · have h1 := List.all_eq_true.mp pb_we_0 j (List.mem_range.mpr q)
        rw [Nat.zero_add] at h1
        exact hs _ (pb_fa_mem h1)
      rcases Nat.lt_or_ge j 56 with q2 | q2
      · have h1 := List.all_eq_true.mp pb_we_28 (j - 28) (List.mem_range.mpr (by omega))
        rw [show 28 + (j - 28) = j by omega] at h1
        exact hs _ (pb_fa_mem h1)
      rcases Nat.lt_or_ge j 84 with q3 | q3
      · have h1 := List.all_eq_true.mp pb_we_56 (j - 56) (List.mem_range.mpr (by omega))
        rw [show 56 + (j - 56) = j by omega] at h1
        exact hs _ (pb_fa_mem h1)
      have h1 := List.all_eq_true.mp pb_we_84 (j - 84) (List.mem_range.mpr (by omega))
      rw [show 84 + (j - 84) = j by omega] at h1
      exact hs _ (pb_fa_mem h1)) (fun i j hi hj hne => absurd (show i = j by omega) hne) hA
  have hcl : ∀ a, ∃ q : ClassId × (Nat → Nat), a < 12 → u_Kn s (pb_cn a) (pb_T a) (pb_nF a) q.1 q.2 := by
    intro a
    by_cases ha : a < 12
    · obtain ⟨cC, iS, h⟩ := u_known (args := #[Value.ref b]) (ws := pb_tbl) (n := pb_nF a) (fun w hw => hts w (List.mem_filter.mp hw).1) (pb_uin ha) (hts _ (List.mem_filter.mp (pb_inst ha)).1)
      exact ⟨(cC, iS), fun _ => h⟩
    · exact ⟨(0, fun _ => 0), fun h => absurd h ha⟩
  obtain ⟨c0, a0⟩ := pb_arr (ty := .int) (fun _ z => by cases z) (hts _ pb_ac_0)
  obtain ⟨c1, a1⟩ := pb_arr (ty := .byte) (fun _ z => by cases z) (hts _ pb_ac_1)
  obtain ⟨c2, a2⟩ := pb_arr (ty := .boolean) (fun _ z => by cases z) (hts _ pb_ac_2)
  obtain ⟨c3, a3⟩ := pb_arrO (hts _ pb_ao_0)
  obtain ⟨c4, a4⟩ := pb_arrO (hts _ pb_ao_1)
  obtain ⟨c5, a5⟩ := pb_arrO (hts _ pb_ao_2)
  refine ⟨fun k => if k = 1 then t1 else if k = 2 then t2 else if k = 3 then t3 else if k = 4 then t4 else if k = 5 then b else adK 0, fun a => (Classical.choose (hcl a)).1, fun a => (Classical.choose (hcl a)).2, fun k => if k = 12 then c0 else if k = 13 then c1 else if k = 14 then c2 else if k = 15 then c3 else if k = 16 then c4 else c5, rfl, ⟨?_, ?_⟩, ?_, ?_, ?_, ?_, ?_⟩
  · intro a q hq
    have ha : a < 12 := by
      have := (List.getElem?_eq_some_iff.mp hq).1
      simpa using this
    have e := pb_cl_at ha
    rw [e] at hq
    cases hq
    exact Classical.choose_spec (hcl a) ha
  · intro k q hq
    have hk : k < 6 := (List.getElem?_eq_some_iff.mp hq).1
    rcases (show k = 0 ∨ k = 1 ∨ k = 2 ∨ k = 3 ∨ k = 4 ∨ k = 5 by omega) with rfl | rfl | rfl | rfl | rfl | rfl
    · cases hq; exact a0
    · cases hq; exact a1
    · cases hq; exact a2
    · cases hq; exact a3
    · cases hq; exact a4
    · cases hq; exact a5
  · intro k h1 h4
    rcases (show k = 1 ∨ k = 2 ∨ k = 3 ∨ k = 4 by omega) with rfl | rfl | rfl | rfl
    · exact va_Zof (hts _ pb_ys_1) (hts _ (List.mem_filter.mp (pb_init (a := 1) (by decide))).1) ht1 hA
    · exact va_Zof (hts _ pb_ys_2) (hts _ (List.mem_filter.mp (pb_init (a := 3) (by decide))).1) ht2 hA
    · exact va_Zof (hts _ pb_ys_3) (hts _ (List.mem_filter.mp (pb_init (a := 6) (by decide))).1) ht3 hA
    · exact va_Zof (hts _ pb_ys_4) (hts _ (List.mem_filter.mp (pb_init (a := 6) (by decide))).1) ht4 hA
  · intro k h1 h5
    rcases (show k = 1 ∨ k = 2 ∨ k = 3 ∨ k = 4 ∨ k = 5 by omega) with rfl | rfl | rfl | rfl | rfl
    · exact hT1
    · exact hT2
    · exact hT3
    · exact hT4
    · obtain ⟨scr, x1, x2, x3, x4, x5⟩ := hX
      have e1 : (pb_E ((List.range L).map xs) 5).length = L := by show ((List.range L).map xs).length = L; simp
      show va_T .int b _ _ _ s s.heap
      rw [e1]
      refine ⟨scr, x1, x2, x3, by omega, by rw [x4], fun j hj => ?_, hA b hbl⟩
      rw [x5 j hj]
      show some (Value.int (xs j)) = some (Value.int (((List.range L).map xs).getD j 0))
      congr 2
      simp [List.getD, hj]
  · intro a h1 h2
    rcases (show a = 15 ∨ a = 16 ∨ a = 17 by omega) with rfl | rfl | rfl
    · exact va_AO.of (hts _ pb_ao_0)
    · exact va_AO.of (hts _ pb_ao_1)
    · exact va_AO.of (hts _ pb_ao_2)
  · exact va_Nw.of rfl (hts _ pb_yn)
  · refine ⟨adV, vk_R.of (hts _ pb_sr) (hSe 0 (by decide)), ?_, va_Zof (hts _ pb_ys_5) (hts _ pb_yi_5) (va_eqt (hs _ (pb_fa_mem pb_w5))) hA, va_Zqof (hts _ pb_ys_6) (hts _ pb_yi_6) (hs _ (pb_fa_mem pb_w6)) hA⟩
    refine ⟨fun i hi => ?_, fun i j hi hj _ => by omega⟩
    have hi0 : i = 0 := by omega
    subst hi0
    exact hSs.1 0 (by decide)
set_option maxHeartbeats 4000000 in
/-- the law from its entry, out of the abstract machine's word on it -/
theorem pb_start {p : Program} {e : Env} {s : State} {m : MethodId} {below : List Frame} {meth : Method} {c : Code} (l : Launch) (hTX : pb_TX l) (hB : ∀ mi, mi < 307 → pb_mok mi = true) (hlaw : ∀ ys : List Int32, ys.length ≤ 3072 → ∃ (d : Nat) (hE : pb_HP), d ≤ 1000 ∧ hE.1 ≤ 241 ∧ pb_AR ys (d + 1) 307 pb_h0 [.retAddr 5] (some (.int 1)) hE) {b L : Nat} {xs : Nat → Int32} (hL : L ≤ 3072) (C0 : lw_At p s m meth c b L xs) : W p l e room_1 s m #[Value.ref b] below meth c s.heap [] 0 0 (lw_Z below #[Value.ref b] s) (entryFrame m ([Value.ref b] : List Value).toArray 4) := by
  obtain ⟨hx, hb, hr, hml, hown, hts, hX, hbl, hlocks, hgv⟩ := C0
  obtain ⟨cst, dC, dI, cA, hc5, hEX⟩ := pb_EX0 hL hts hX hbl hgv
  obtain ⟨d, hE, hd, hn, hAR⟩ := hlaw ((List.range L).map xs) (by simpa using hL)
  have hsl : pb_sl hE.1 ≤ 20000 := Nat.le_trans (pb_sl_le hn) (by decide +kernel)
  have F : pb_FX p room_1 s m #[Value.ref b] c (pb_cc 307) 4 (pb_ow 307) s.heap.size cst dC dI cA ((List.range L).map xs) (d + 8) 0 hE.1 :=
    ⟨hx, hb, hml, hown, by decide, fun w hw => hts w (List.mem_filter.mp hw).1, hEX, rfl, by show hE.1 - 0 ≤ 600000; omega, by show pb_sl hE.1 - pb_sl 0 ≤ 7302249; omega, by show d + 8 + 1 ≤ 2048; omega, by show 64 * (d + 8 + 1) ≤ 84000; omega⟩
  have hG := hAR _ (pb_closed (l := l) (e := e) (below := below) (meth := meth) (mi := 307) (Q := lw_Z below #[Value.ref b] s) hTX (by omega) F (fun k => by cases k) pb_mok_law pb_rr_law
    (fun a h as v h1 k => ⟨pb_mono _ _ _ _ _ _ _ k, fun ha hw => pb_sound hTX hB (fun mi hmi => pb_rr_all hmi) d a h as v h1 ha hw k⟩) (fun v h k => by rw [k.2]; exact Nat.le_refl _)
    (fun i v pc lsA st h2 H locs hret hrk hdc hfin hn0 hP hS => by
      obtain ⟨rfl, rfl⟩ := hfin
      rcases hret with ⟨rfl, x, hv, rfl, hz⟩ | ⟨rfl, x, hv, rfl⟩ | ⟨rfl, ⟨x, hv, rfl⟩ | ⟨hv, rfl⟩⟩ | ⟨rfl, hv, rfl⟩
      · cases hv
        refine va_forget (fun q hq => hS.2.2 q hq) ?_
        refine W.widen (k := 600000) (n := 7302249) (by omega) (by show pb_sl h2.1 - pb_sl 0 ≤ _; omega) ?_
        exact lw_ret hx hb hr hlocks hdc
      · cases hv
      · cases hv
      · cases hv
      · cases hv))
  have hl := lv_entry ([.ref b]) (n := 4) (Nat.le_of_ble_eq_true rfl)
  rw [lg_entry_eq]
  have h2 := hG.2 (Nat.le_refl _) s.heap [] _ (fun k q hq => by simp [pb_ws, pb_h0] at hq) va_S.rf (by
    have e : (lv_args 0 ([.retAddr 5] : List Value)).map (pb_vp s.heap.size cst) = lv_args 0 [.ref b] := by
      show [(0, Value.ref (cst 5))] = [(0, Value.ref b)]
      rw [hc5]
    rw [e]
    exact hl)
  exact h2

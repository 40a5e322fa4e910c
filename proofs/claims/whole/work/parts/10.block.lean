theorem pb_fit_i {ty : FieldType} {t : Nat} {v : Int32} (hk : pb_tyk ty = t) (ht : t = 0 ∨ t = 3 ∧ (v = 0 ∨ v = 1)) : narrow ty (.int v) = .int v ∧ fits ty (.int v) = true := by
  rcases ht with q | ⟨q, hv⟩
  · rw [q] at hk
    cases ty <;> first | exact ⟨rfl, rfl⟩ | (simp [pb_tyk] at hk)
  · rw [q] at hk
    cases ty <;> first | (rcases hv with z | z <;> subst z <;> exact ⟨by decide, by decide⟩) | (simp [pb_tyk] at hk)
theorem pb_fit_l {ty : FieldType} {v : Int64} (hk : pb_tyk ty = 1) : narrow ty (.long v) = .long v ∧ fits ty (.long v) = true := by
  cases ty <;> first | exact ⟨rfl, rfl⟩ | (simp [pb_tyk] at hk)
theorem pb_fit_r {ty : FieldType} {v : Nat} (hk : pb_tyk ty = 2) : narrow ty (.ref v) = .ref v ∧ fits ty (.ref v) = true := by
  cases ty <;> first | exact ⟨rfl, rfl⟩ | (simp [pb_tyk] at hk)
theorem pb_E_k {xs : List Int32} {i : Int32} {k : Nat} (h : pb_in i (pb_E xs k).length) : 1 ≤ k ∧ k ≤ 5 := by
  match k, h with
  | 0, h => exact absurd h.2 (Nat.not_lt_zero _)
  | 1, _ => exact ⟨by decide, by decide⟩
  | 2, _ => exact ⟨by decide, by decide⟩
  | 3, _ => exact ⟨by decide, by decide⟩
  | 4, _ => exact ⟨by decide, by decide⟩
  | 5, _ => exact ⟨by decide, by decide⟩
  | k + 6, h => exact absurd h.2 (Nat.not_lt_zero _)
theorem pb_nar_z {f : Nat → Int32} {k : Nat} {v : Int32} {cI : ClassId} {N b : Nat} {ws : va_W} {o : Nat} (hz : v = 0 ∨ v = 1) : ws.set o (b, (.inl (cI, N, .inl (upd f k (vp_nar .boolean v))) : va_E)) = ws.set o (b, .inl (cI, N, .inl (upd f k v))) := by
  have e : vp_nar .boolean v = v := by rcases hz with z | z <;> subst z <;> decide
  rw [e]
theorem pb_ba {a : Nat} {A B : Prop} (h : match a with | 13 => A | 14 => B | _ => False) : (a = 13 ∧ A) ∨ (a = 14 ∧ B) := by
  split at h
  · exact Or.inl ⟨rfl, h⟩
  · exact Or.inr ⟨rfl, h⟩
  · exact False.elim h
theorem pb_SHL_small : pb_SHL.all (fun q => Nat.ble q.2 3000) = true := by decide +kernel
theorem pb_SH_small (o : Nat) : (pb_SH o).2 ≤ 3000 := by
  unfold pb_SH
  by_cases ho : o < pb_SHL.length
  · have h1 := List.all_eq_true.mp pb_SHL_small (pb_SHL[o]) (List.getElem_mem ho)
    have e1 : pb_SHL.getD o (99, 0) = pb_SHL[o] := by simp [List.getD, ho]
    rw [e1]
    exact Nat.le_of_ble_eq_true h1
  · have e1 : pb_SHL.getD o (99, 0) = (99, 0) := by simp [List.getD, ho]
    rw [e1]
    exact Nat.zero_le _
theorem pb_ac_0 : Jvm.Cond.arrayClass .int ∈ lw_tbl := pb_in_1 (List.mem_of_getElem? (i := 96) rfl)
theorem pb_ac_1 : Jvm.Cond.arrayClass .byte ∈ lw_tbl := pb_in_1 (List.mem_of_getElem? (i := 167) rfl)
theorem pb_ac_2 : Jvm.Cond.arrayClass .boolean ∈ lw_tbl := pb_in_1 (List.mem_of_getElem? (i := 224) rfl)
theorem pb_fresh {base : Nat} {cA : Nat → ClassId} {dC : Nat → ClassId} {dI : Nat → Nat → Nat} {h : pb_HP} {H1 : Heap} {q n0 z : Nat} {x : va_E} (hP1 : va_P (dC, dI) pb_cl (pb_ws base cA h ++ [(q, x)]) H1) (hD1 : va_D (pb_up base) (pb_ws base cA h ++ [(q, x)])) (hs : H1.size ≤ z + (h.1 - n0 + 1)) (hz : z = base + n0) (hn : n0 ≤ h.1) : q = base + h.1 := by
  have hlen : (pb_ws base cA h).length = h.1 := by unfold pb_ws; simp
  have hlast : (pb_ws base cA h ++ [(q, x)])[h.1]? = some (q, x) := by
    rw [List.getElem?_append_right (by omega), hlen, Nat.sub_self]
    rfl
  have h1 : base ≤ q := hD1.2 h.1 _ hlast
  have h2 : q < H1.size := (hP1 h.1 _ hlast).lt
  rcases Nat.lt_or_ge q (base + h.1) with c | c
  · have hk : q - base < h.1 := by omega
    have h3 : (pb_ws base cA h ++ [(q, x)])[q - base]? = some (base + (q - base), pb_ce base cA h (q - base)) := by
      rw [List.getElem?_append_left (by omega)]
      exact pb_ws_at hk
    have h4 := hD1.1 _ _ _ _ h3 hlast (show base + (q - base) = q by omega)
    omega
  · omega
theorem pb_ty9l : pb_FTY.all (fun l => l.all (fun t => Nat.blt t 4)) = true := by decide +kernel
theorem pb_ty9 (a j : Nat) : pb_ty a j ≠ 9 := by
  unfold pb_ty
  intro h
  by_cases ha : a < pb_FTY.length
  · rw [show pb_FTY.getD a [] = pb_FTY[a] by simp [List.getD, ha]] at h
    by_cases hj : j < pb_FTY[a].length
    · rw [show (pb_FTY[a]).getD j 0 = (pb_FTY[a])[j] by simp [List.getD, hj]] at h
      have h1 := List.all_eq_true.mp (List.all_eq_true.mp pb_ty9l _ (List.getElem_mem ha)) _ (List.getElem_mem hj)
      have h2 := Nat.le_of_ble_eq_true h1
      omega
    · rw [show (pb_FTY[a]).getD j 0 = 0 by simp [List.getD, hj]] at h
      omega
  · rw [show pb_FTY.getD a [] = [] by simp [List.getD, ha]] at h
    simp at h
theorem pb_dflt {base : Nat} {h : pb_HP} {a : Nat} (ha : a < 12) : ∀ j, j < pb_nF a → defaultValue (pb_TY a j) = vp_V ((List.range (pb_nF a)).map (pb_fv base (pb_nw h) h.1 a)) j := by
  intro j hj
  have e1 : vp_V ((List.range (pb_nF a)).map (pb_fv base (pb_nw h) h.1 a)) j = pb_fv base (pb_nw h) h.1 a j := by
    unfold vp_V
    rw [List.getD_eq_getElem?_getD, pb_fs_at hj]
    rfl
  rw [e1]
  have hk := pb_uk ha hj
  have hne : pb_ty a j ≠ 9 := pb_ty9 a j
  unfold pb_fv
  rw [pb_nw_I, pb_nw_J, pb_nw_R, ← hk]
  rw [← hk] at hne
  generalize pb_TY a j = ty at hne ⊢
  cases ty <;> first | rfl | exact absurd rfl hne
theorem pb_cat (base : Nat) (cst : Nat → Nat) (st : List Value) : ((st.map (pb_vv base cst)).map Value.category).sum = (st.map Value.category).sum := by
  rw [List.map_map]
  congr 1
  exact List.map_congr_left (fun v _ => pb_vv_cat base cst v)
theorem pb_ol (base : Nat) (cst : Nat → Nat) (v : Option Value) : v.toList.map (pb_vv base cst) = (v.map (pb_vv base cst)).toList := by cases v <;> rfl
theorem pb_split {st st2 : List Value} {v : Value} {k : Nat} (h : st.drop k = v :: st2) : ∃ pre, st = pre ++ v :: st2 ∧ pre.length = k := by
  refine ⟨st.take k, ?_, ?_⟩
  · rw [← h, List.take_append_drop]
  · have : k < st.length := by
      rcases Nat.lt_or_ge k st.length with q | q
      · exact q
      · rw [List.drop_eq_nil_of_le q] at h
        cases h
    rw [List.length_take]
    omega
theorem pb_take {st st2 pre : List Value} {v : Value} {b : Nat} (h : st = pre ++ v :: st2) (hl : pre.length = b - 1) (hb : 1 ≤ b) : (st.take b).reverse = v :: pre.reverse := by
  have e : b = pre.length + 1 := by omega
  subst h
  rw [e, show pre ++ v :: st2 = (pre ++ [v]) ++ st2 by simp, List.take_left' (by simp), List.reverse_append]
  rfl
theorem pb_good {ws : List Jvm.Cond} (h : ∀ w ∈ ws, w ∈ pb_tbl) : GoodIn pb_tbl ws := fun w hw => ⟨h w hw, good_of_word (List.mem_filter.mp (h w hw)).2⟩
theorem pb_yy_n {a : Nat} (h : a < 307) : pb_yy a = pb_y a := by
  unfold pb_yy
  rw [if_neg (by omega), if_neg (by omega), if_neg (by omega), if_neg (by omega), if_neg (by omega)]
theorem pb_mw_spec {a : Nat} (h : a < 307) : Jvm.Cond.code (pb_y a) (pb_cc a) (pb_mL a) (pb_rt a) ∈ lw_tbl ∧ Jvm.Cond.initialized (pb_y a).cls ∈ lw_tbl ∧ pb_mL a ≤ 40 ∧ (pb_y a).cls ≠ "java/lang/invoke/MethodHandle" ∧ (pb_y a).cls ≠ "java/lang/invoke/VarHandle" ∧ (parseMethodDescriptor (pb_y a).desc).map (fun d => d.parameters.length) = some (pb_mh a).2.2.2.2.2 ∧ ((pb_mh a).2.2.2.2.1 = 0 → Jvm.Cond.static (pb_y a) ∈ lw_tbl) ∧ (((pb_mh a).2.2.2.2.1 = 2 → Jvm.Cond.instanceMethod (pb_y a) ∈ lw_tbl) ∧ ((pb_mh a).2.2.2.2.1 = 2 → (pb_y a).name = "<init>" ∧ pb_rt a = none)) ∧ (((pb_mh a).2.2.2.2.1 = 1 → Jvm.Cond.instanceMethod (pb_y a) ∈ lw_tbl) ∧ ((pb_mh a).2.2.2.2.1 = 1 → Jvm.Cond.selects (pb_y a).cls (pb_y a) (pb_y a) ∈ lw_tbl ∧ pb_cn (pb_mc a) = (pb_y a).cls ∧ pb_mc a < 12)) := by
  have h1 := pb_mw_all h
  unfold pb_mw at h1
  obtain ⟨a1, a2⟩ := (Bool.and_eq_true _ _).mp h1
  obtain ⟨a3, a4⟩ := (Bool.and_eq_true _ _).mp a2
  obtain ⟨b1, b2, b3, b4, b5, b6, b7, b8, b9⟩ := of_decide_eq_true a3
  refine ⟨pb_cd h, pb_wd_mem a1, b7, b3, b4, b5, ?_, ⟨?_, ?_⟩, ?_, ?_⟩
  · intro e
    rw [e] at a4
    exact pb_wd_mem a4
  · intro e
    rw [e] at a4
    exact pb_wd_mem ((Bool.and_eq_true _ _).mp a4).1
  · intro e
    rw [e] at a4
    exact of_decide_eq_true ((Bool.and_eq_true _ _).mp a4).2
  · intro e
    rw [e] at a4
    exact pb_wd_mem ((Bool.and_eq_true _ _).mp a4).1
  · intro e
    rw [e] at a4
    obtain ⟨c1, c2⟩ := (Bool.and_eq_true _ _).mp ((Bool.and_eq_true _ _).mp a4).2
    exact ⟨pb_wd_mem c1, of_decide_eq_true c2⟩
theorem pb_blind {base : Nat} {cst : Nat → Nat} {dC : Nat → ClassId} {dI : Nat → Nat → Nat} {cA : Nat → ClassId} {xs : List Int32} {h : pb_HP} {av : List Value} : FrameBlind (va_Pc av (pb_PRE base cst dC dI cA xs h)) := by
  intro a U g mk q
  obtain ⟨q0, q1, q2, q3⟩ := q
  exact ⟨q0, q1, q2, q3.same rfl⟩
theorem pb_after {p : Program} {l : Launch} {e : Env} {R : Room} {s : State} {m : MethodId} {args : Array Value} {below : List Frame} {meth : Method} {c : Code} {H : Heap} {locs : List Loc} {cells slots mc ms : Nat} {Q : State → Prop} {base : Nat} {cst : Nat → Nat} {dC : Nat → ClassId} {dI : Nat → Nat → Nat} {cA : Nat → ClassId} {v : Option Value} {h1 : pb_HP} {av : Array Value} {pc : Nat} {lsA : Array Slot} {st0 rest : List Value} (hr : va_Run p l e R s m args below meth c H locs cells slots mc ms (F0 m pc lsA st0) rest (pb_QC base cst dC dI cA v h1 av) (pb_up base)) (hS : va_S (pb_up base) s.heap H locs)
    (kk : ∀ (H1 : Heap) (locs1 : List Loc), va_P (dC, dI) pb_cl (pb_ws base cA h1) H1 → va_S (pb_up base) s.heap H1 locs1 → W p l e R s m args below meth c H1 locs1 (cells + mc) (slots + ms) Q (F0 m (pc + 3) lsA ((v.map (pb_vv base cst)).toList ++ rest))) : W p l e R s m args below meth c H locs cells slots Q (F0 m pc lsA st0) := by
  intro T hT X
  obtain ⟨v', st₀, t, T', L, h0, X', hL, e1, e2, ⟨hv, hP1, hz, hk⟩, st⟩ := hr T hT X
  have hv : v' = v.map (pb_vv base cst) := by
    injection hv
  subst hv
  rw [h0] at hz hk
  obtain ⟨t2, a1, b1⟩ := kk T'.heap (locs ++ L) (by rw [e1]; exact hP1)
    ⟨Nat.le_trans hS.1 (by rw [e1]; exact hz), fun q g1 g2 => by rw [e1, hk q (Nat.lt_of_lt_of_le g1 hS.1) g2]; exact hS.2.1 q g1 g2, fun q hq => by
      rcases List.mem_append.mp hq with h | h
      · exact hS.2.2 q h
      · exact hL q h⟩ T' rfl X'
  exact ⟨t2, st t2 a1, b1⟩
theorem pb_oi_1 : Jvm.Cond.instanceMethod Lib.objectInit ∈ lw_tbl := pb_in_1 (List.mem_of_getElem? (i := 27) rfl)
theorem pb_oi_2 : Jvm.Cond.code Lib.objectInit ⟨#[0xb1]⟩ 1 none ∈ lw_tbl := pb_in_1 (List.mem_of_getElem? (i := 28) rfl)
theorem pb_n9 {k : Nat} {A : Prop} (hw : match k with | 9 => A | _ => False) (h : ¬ k = 9) : False := by
  split at hw
  · exact h rfl
  · exact hw
theorem pb_nv {a : Nat} {A B : Prop} (hw : match a with | 1002 => A | _ => B) (h : ¬ a = 1002) : B := by
  split at hw
  · exact absurd rfl h
  · exact hw
theorem pb_nk {a : Nat} {A B : Bool} (hw : (match a with | 1002 => A | _ => B) = true) (h : ¬ a = 1002) : B = true := by
  split at hw
  · exact absurd rfl h
  · exact hw
theorem pb_nv1 {a : Nat} {A B : Prop} (hw : match a with | 1001 => A | _ => B) (h : ¬ a = 1001) : B := by
  split at hw
  · exact absurd rfl h
  · exact hw
theorem pb_nk1 {a : Nat} {A B : Bool} (hw : (match a with | 1001 => A | _ => B) = true) (h : ¬ a = 1001) : B = true := by
  split at hw
  · exact absurd rfl h
  · exact hw
theorem pb_nt_1 : Jvm.Cond.native arraycopyName ∈ lw_tbl := pb_in_3 (List.mem_of_getElem? (i := 69) rfl)
theorem pb_nt_2 : Jvm.Cond.static arraycopyName ∈ lw_tbl := pb_in_3 (List.mem_of_getElem? (i := 68) rfl)
theorem pb_nt_3 : Jvm.Cond.initialized "java/lang/System" ∈ lw_tbl := pb_in_1 (List.mem_of_getElem? (i := 19) rfl)
theorem pb_m_3 : Jvm.Cond.initialized "java/lang/Math" ∈ lw_tbl := pb_in_1 (List.mem_of_getElem? (i := 5) rfl)
theorem pb_mmax_1 : Jvm.Cond.static Lib.Math.max.name ∈ lw_tbl := pb_in_1 (List.mem_of_getElem? (i := 105) rfl)
theorem pb_mmin_1 : Jvm.Cond.static Lib.Math.min.name ∈ lw_tbl := pb_in_2 (List.mem_of_getElem? (i := 188) rfl)
theorem pb_mabs_1 : Jvm.Cond.static Lib.Math.abs.name ∈ lw_tbl := pb_in_5 (List.mem_of_getElem? (i := 3) rfl)
theorem pb_mmax_2 : Jvm.Cond.code Lib.Math.max.name Lib.Math.max.code 2 (some .int) ∈ lw_tbl := pb_in_1 (List.mem_of_getElem? (i := 106) rfl)
theorem pb_mmin_2 : Jvm.Cond.code Lib.Math.min.name Lib.Math.min.code 2 (some .int) ∈ lw_tbl := pb_in_2 (List.mem_of_getElem? (i := 189) rfl)
theorem pb_mabs_2 : Jvm.Cond.code Lib.Math.abs.name Lib.Math.abs.code 1 (some .int) ∈ lw_tbl := pb_in_5 (List.mem_of_getElem? (i := 4) rfl)
theorem pb_sv {a : Nat} {A B C D E : Prop} (hw : match a with | 1000 => A | 1003 => B | 1004 => C | 1005 => D | _ => E) (h0 : ¬ a = 1000) (h1 : ¬ a = 1003) (h2 : ¬ a = 1004) (h3 : ¬ a = 1005) : E := by
  split at hw
  · exact absurd rfl h0
  · exact absurd rfl h1
  · exact absurd rfl h2
  · exact absurd rfl h3
  · exact hw
theorem pb_sk {a : Nat} {A B C D E : Bool} (hw : (match a with | 1000 => A | 1003 => B | 1004 => C | 1005 => D | _ => E) = true) (h0 : ¬ a = 1000) (h1 : ¬ a = 1003) (h2 : ¬ a = 1004) (h3 : ¬ a = 1005) : E = true := by
  split at hw
  · exact absurd rfl h0
  · exact absurd rfl h1
  · exact absurd rfl h2
  · exact absurd rfl h3
  · exact hw
theorem pb_dsp {o : Option (pb_LS × List Value)} {K : pb_LS → List Value → Prop} {C : Prop} (hw : match o with | some (ls2, st2) => K ls2 st2 | none => False) (h : ∀ ls2 st2, o = some (ls2, st2) → K ls2 st2 → C) : C := by
  match o, h, hw with
  | some (x, y), h, hw => exact h x y rfl hw
  | none, _, hw => exact False.elim hw
def pb_rk (rt : Option FieldType) (i : Instr) : Bool := match i with
  | .ireturn => decide (rt = some .int ∨ rt = some .boolean)
  | .lreturn => decide (rt = some .long)
  | .areturn => decide (rt = some (.object "PointedBench$County") ∨ rt = some (.object "PointedBench$Lines"))
  | .return_ => decide (rt = none)
  | _ => true
def pb_bok2 (rt : Option FieldType) (ow : Nat) (ini : Bool) (cc : ByteArray) (pc : Nat) (B : List pb_El) : Bool := pb_bok ow ini cc pc B && B.all (fun el => pb_rk rt el.1)
set_option maxHeartbeats 16000000 in
set_option maxRecDepth 4000 in
theorem pb_blk {p : Program} {l : Launch} {e : Env} {R : Room} {s : State} {m : MethodId} {args : Array Value} {below : List Frame} {meth : Method} {c : Code} {Q : State → Prop} {cc : ByteArray} {mL ow base : Nat} {cst : Nat → Nat} {dC : Nat → ClassId} {dI : Nat → Nat → Nat} {cA : Nat → ClassId} {xs : List Int32} {d n0 mx rz : Nat} {rt : Option FieldType} {ini : Bool} {CR : Nat → pb_HP → List Value → Option Value → pb_HP → Prop} {FIN : Option Value → pb_HP → Prop} {G : Nat → pb_LS → List Value → pb_HP → Prop}
    (hG : G = pb_WG p l e R s m args below meth c Q base cst dC dI cA mL n0 mx) (F : pb_FX p R s m args c cc mL ow base cst dC dI cA xs d n0 mx) (hini : ini = true → meth.name = "<init>")
    (hCR : ∀ a h as v h1, CR a h as v h1 → h.1 ≤ h1.1 ∧ (a < 307 → (as.map Value.category).sum ≤ pb_mL a → pb_Ct l base cst dC dI cA xs d a h as v h1))
    (hFm : ∀ v h, FIN v h → h.1 ≤ mx)
    (hF : ∀ (i : Instr) (v : Option Value) (pc : Nat) (lsA : Array Slot) (st : List Value) (h : pb_HP) (H : Heap) (locs : List Loc), pb_ret rz i v st → pb_rk rt i = true → decode cc pc = .ok (i, 1) → FIN v h → n0 ≤ h.1 → va_P (dC, dI) pb_cl (pb_ws base cA h) H → va_S (pb_up base) s.heap H locs → W p l e R s m args below meth c H locs (h.1 - n0) (pb_sl h.1 - pb_sl n0) Q (F0 m pc lsA (st.map (pb_vv base cst))))
    (hLd : ∀ (pc : Nat) (lsA : Array Slot) (st : List Value) (H : Heap) (locs : List Loc) (cells slots : Nat), ow = 6 → decode cc pc = .ok (.ldc 134, 2) → va_S (pb_up base) s.heap H locs → W p l e R s m args below meth c H locs cells slots Q (F0 m (pc + 2) lsA (.ref (cst 9) :: st)) → W p l e R s m args below meth c H locs cells slots Q (F0 m pc lsA st))
    (hCh : ∀ (pc : Nat) (lsA : Array Slot) (st : List Value) (H : Heap) (locs : List Loc) (cells slots : Nat) (i : Int32), ow = 6 → decode cc pc = .ok (.invokevirtual 136, 3) → lsA.size = mL → va_S (pb_up base) s.heap H locs → pb_in i pb_WD.length → cells ≤ R.cells → slots ≤ R.slots → (st.map Value.category).sum ≤ 8 → W p l e R s m args below meth c H locs cells slots Q (F0 m (pc + 3) lsA (.int (pb_WD.getD i.toNatClampNeg 0) :: st)) → W p l e R s m args below meth c H locs cells slots Q (F0 m pc lsA (.int i :: .ref (cst 9) :: st))) :
    ∀ (B : List pb_El) (pc : Nat) (ls : pb_LS) (st : List Value) (h : pb_HP), pb_bok2 rt ow ini cc pc B = true → pb_bw CR G FIN mL rz xs B pc ls st h → G pc ls st h := by
  obtain ⟨hx, hb, hml, hown, how, hts, hE, hsz, hRc, hRs, hRf, hRl⟩ := F
  obtain ⟨hK, hZ, hT, hAO, hNw, hSt⟩ := id hE
  have hA : ∀ q, s.heap.size ≤ q → pb_up base q := fun q hq => by show base ≤ q; omega
  have toW : ∀ {pc ls st h}, G pc ls st h → pb_WG p l e R s m args below meth c Q base cst dC dI cA mL n0 mx pc ls st h := fun {_ _ _ _} q => by rw [hG] at q; exact q
  have ofW : ∀ {pc ls st h}, pb_WG p l e R s m args below meth c Q base cst dC dI cA mL n0 mx pc ls st h → G pc ls st h := fun {_ _ _ _} q => by rw [hG]; exact q
  intro B
  induction B with
  | nil => intro pc ls st h _ hw; exact hw
  | cons el r ih =>
  intro pc ls st h hok hw
  obtain ⟨i, n, a, b⟩ := el
  obtain ⟨hoka, hokb⟩ := (Bool.and_eq_true _ _).mp hok
  obtain ⟨hok1, hokc⟩ := (Bool.and_eq_true _ _).mp hoka
  obtain ⟨hrk, hokd⟩ := (Bool.and_eq_true _ _).mp (show (pb_rk rt i && r.all (fun el => pb_rk rt el.1)) = true from hokb)
  have hok2 : pb_bok2 rt ow ini cc (pc + n) r = true := (Bool.and_eq_true _ _).mpr ⟨hokc, hokd⟩
  obtain ⟨hd, hn, hk⟩ := pb_eok_spec hok1
  have hs1 : ∀ ls2 st2, pb_s1 i a b mL ls st = some (ls2, st2) → pb_bw CR G FIN mL rz xs r (pc + n) ls2 st2 h → G pc ls st h := by
    intro ls2 st2 h1 hw
    obtain ⟨g1, g2⟩ := toW (ih _ _ _ _ hok2 hw)
    refine ofW ⟨g1, fun hn0 H locs lsA hP hS hl => ?_⟩
    exact pb_s1_W (base := base) (cst := cst) hx hb hown hts how hS hZ (fun e1 e3 lsA k => hLd pc lsA _ H locs _ _ e1 e3 hS k) hok1 h1 (fun lsA hl => g2 hn0 H locs lsA hP hS hl) hl
  cases i
  case goto off =>
    have hn : n = 3 := hn
    subst hn
    have hw : G a ls st h := hw
    obtain ⟨g1, g2⟩ := toW hw
    exact ofW ⟨g1, fun hn0 H locs lsA hP hS hl => lv_goto hx hb hd (of_decide_eq_true hk) (g2 hn0 H locs lsA hP hS hl)⟩
  case ifCond cn off =>
    have hn : n = 3 := hn
    subst hn
    cases st with
    | nil => exact False.elim hw
    | cons v_ st2 =>
      cases v_ with
      | int x =>
        cases cn with
        | eq =>
          have hw : (x = 0 → G a ls st2 h) ∧ (¬ x = 0 → pb_bw CR G FIN mL rz xs r (pc + 3) ls st2 h) := hw
          refine ofW ⟨?_, fun hn0 H locs lsA hP hS hl => lv_if_eq hx hb hd (of_decide_eq_true hk) (fun q => (toW (hw.1 q)).2 hn0 H locs lsA hP hS hl) (fun q => (toW (ih _ _ _ _ hok2 (hw.2 q))).2 hn0 H locs lsA hP hS hl)⟩
          by_cases q : x = 0
          · exact (toW (hw.1 q)).1
          · exact (toW (ih _ _ _ _ hok2 (hw.2 q))).1
        | ne =>
          have hw : (¬ x = 0 → G a ls st2 h) ∧ (¬ (¬ x = 0) → pb_bw CR G FIN mL rz xs r (pc + 3) ls st2 h) := hw
          refine ofW ⟨?_, fun hn0 H locs lsA hP hS hl => lv_if_ne hx hb hd (of_decide_eq_true hk) (fun q => (toW (hw.1 q)).2 hn0 H locs lsA hP hS hl) (fun q => (toW (ih _ _ _ _ hok2 (hw.2 (fun z => z q)))).2 hn0 H locs lsA hP hS hl)⟩
          by_cases q : ¬ x = 0
          · exact (toW (hw.1 q)).1
          · exact (toW (ih _ _ _ _ hok2 (hw.2 q))).1
        | lt =>
          have hw : (x < 0 → G a ls st2 h) ∧ (¬ x < 0 → pb_bw CR G FIN mL rz xs r (pc + 3) ls st2 h) := hw
          refine ofW ⟨?_, fun hn0 H locs lsA hP hS hl => lv_if_lt hx hb hd (of_decide_eq_true hk) (fun q => (toW (hw.1 q)).2 hn0 H locs lsA hP hS hl) (fun q => (toW (ih _ _ _ _ hok2 (hw.2 q))).2 hn0 H locs lsA hP hS hl)⟩
          by_cases q : x < 0
          · exact (toW (hw.1 q)).1
          · exact (toW (ih _ _ _ _ hok2 (hw.2 q))).1
        | ge =>
          have hw : (0 ≤ x → G a ls st2 h) ∧ (¬ 0 ≤ x → pb_bw CR G FIN mL rz xs r (pc + 3) ls st2 h) := hw
          refine ofW ⟨?_, fun hn0 H locs lsA hP hS hl => lv_if_ge hx hb hd (of_decide_eq_true hk) (fun q => (toW (hw.1 q)).2 hn0 H locs lsA hP hS hl) (fun q => (toW (ih _ _ _ _ hok2 (hw.2 q))).2 hn0 H locs lsA hP hS hl)⟩
          by_cases q : 0 ≤ x
          · exact (toW (hw.1 q)).1
          · exact (toW (ih _ _ _ _ hok2 (hw.2 q))).1
        | gt =>
          have hw : (0 < x → G a ls st2 h) ∧ (¬ 0 < x → pb_bw CR G FIN mL rz xs r (pc + 3) ls st2 h) := hw
          refine ofW ⟨?_, fun hn0 H locs lsA hP hS hl => lv_if_gt hx hb hd (of_decide_eq_true hk) (fun q => (toW (hw.1 q)).2 hn0 H locs lsA hP hS hl) (fun q => (toW (ih _ _ _ _ hok2 (hw.2 q))).2 hn0 H locs lsA hP hS hl)⟩
          by_cases q : 0 < x
          · exact (toW (hw.1 q)).1
          · exact (toW (ih _ _ _ _ hok2 (hw.2 q))).1
        | le =>
          have hw : (x ≤ 0 → G a ls st2 h) ∧ (¬ x ≤ 0 → pb_bw CR G FIN mL rz xs r (pc + 3) ls st2 h) := hw
          refine ofW ⟨?_, fun hn0 H locs lsA hP hS hl => lv_if_le hx hb hd (of_decide_eq_true hk) (fun q => (toW (hw.1 q)).2 hn0 H locs lsA hP hS hl) (fun q => (toW (ih _ _ _ _ hok2 (hw.2 q))).2 hn0 H locs lsA hP hS hl)⟩
          by_cases q : x ≤ 0
          · exact (toW (hw.1 q)).1
          · exact (toW (ih _ _ _ _ hok2 (hw.2 q))).1
      | _ => exact False.elim hw
  case if_icmp cn off =>
    have hn : n = 3 := hn
    subst hn
    cases st with
    | nil => exact False.elim hw
    | cons v_ s_ =>
      cases v_ with
      | int y =>
        cases s_ with
        | nil => exact False.elim hw
        | cons v_ st2 =>
          cases v_ with
          | int x =>
            cases cn with
            | eq =>
              have hw : (x = y → G a ls st2 h) ∧ (¬ x = y → pb_bw CR G FIN mL rz xs r (pc + 3) ls st2 h) := hw
              refine ofW ⟨?_, fun hn0 H locs lsA hP hS hl => lv_icmp_eq hx hb hd (of_decide_eq_true hk) (fun q => (toW (hw.1 q)).2 hn0 H locs lsA hP hS hl) (fun q => (toW (ih _ _ _ _ hok2 (hw.2 q))).2 hn0 H locs lsA hP hS hl)⟩
              by_cases q : x = y
              · exact (toW (hw.1 q)).1
              · exact (toW (ih _ _ _ _ hok2 (hw.2 q))).1
            | ne =>
              have hw : (¬ x = y → G a ls st2 h) ∧ (¬ (¬ x = y) → pb_bw CR G FIN mL rz xs r (pc + 3) ls st2 h) := hw
              refine ofW ⟨?_, fun hn0 H locs lsA hP hS hl => lv_icmp_ne hx hb hd (of_decide_eq_true hk) (fun q => (toW (hw.1 q)).2 hn0 H locs lsA hP hS hl) (fun q => (toW (ih _ _ _ _ hok2 (hw.2 (fun z => z q)))).2 hn0 H locs lsA hP hS hl)⟩
              by_cases q : ¬ x = y
              · exact (toW (hw.1 q)).1
              · exact (toW (ih _ _ _ _ hok2 (hw.2 q))).1
            | lt =>
              have hw : (x < y → G a ls st2 h) ∧ (¬ x < y → pb_bw CR G FIN mL rz xs r (pc + 3) ls st2 h) := hw
              refine ofW ⟨?_, fun hn0 H locs lsA hP hS hl => lv_icmp_lt hx hb hd (of_decide_eq_true hk) (fun q => (toW (hw.1 q)).2 hn0 H locs lsA hP hS hl) (fun q => (toW (ih _ _ _ _ hok2 (hw.2 q))).2 hn0 H locs lsA hP hS hl)⟩
              by_cases q : x < y
              · exact (toW (hw.1 q)).1
              · exact (toW (ih _ _ _ _ hok2 (hw.2 q))).1
            | ge =>
              have hw : (y ≤ x → G a ls st2 h) ∧ (¬ y ≤ x → pb_bw CR G FIN mL rz xs r (pc + 3) ls st2 h) := hw
              refine ofW ⟨?_, fun hn0 H locs lsA hP hS hl => lv_icmp_ge hx hb hd (of_decide_eq_true hk) (fun q => (toW (hw.1 q)).2 hn0 H locs lsA hP hS hl) (fun q => (toW (ih _ _ _ _ hok2 (hw.2 q))).2 hn0 H locs lsA hP hS hl)⟩
              by_cases q : y ≤ x
              · exact (toW (hw.1 q)).1
              · exact (toW (ih _ _ _ _ hok2 (hw.2 q))).1
            | gt =>
              have hw : (y < x → G a ls st2 h) ∧ (¬ y < x → pb_bw CR G FIN mL rz xs r (pc + 3) ls st2 h) := hw
              refine ofW ⟨?_, fun hn0 H locs lsA hP hS hl => lv_icmp_gt hx hb hd (of_decide_eq_true hk) (fun q => (toW (hw.1 q)).2 hn0 H locs lsA hP hS hl) (fun q => (toW (ih _ _ _ _ hok2 (hw.2 q))).2 hn0 H locs lsA hP hS hl)⟩
              by_cases q : y < x
              · exact (toW (hw.1 q)).1
              · exact (toW (ih _ _ _ _ hok2 (hw.2 q))).1
            | le =>
              have hw : (x ≤ y → G a ls st2 h) ∧ (¬ x ≤ y → pb_bw CR G FIN mL rz xs r (pc + 3) ls st2 h) := hw
              refine ofW ⟨?_, fun hn0 H locs lsA hP hS hl => lv_icmp_le hx hb hd (of_decide_eq_true hk) (fun q => (toW (hw.1 q)).2 hn0 H locs lsA hP hS hl) (fun q => (toW (ih _ _ _ _ hok2 (hw.2 q))).2 hn0 H locs lsA hP hS hl)⟩
              by_cases q : x ≤ y
              · exact (toW (hw.1 q)).1
              · exact (toW (ih _ _ _ _ hok2 (hw.2 q))).1
          | _ => exact False.elim hw
      | _ => exact False.elim hw
  case ifnull off =>
    have hn : n = 3 := hn
    subst hn
    cases st with
    | nil => exact False.elim hw
    | cons v_ st2 =>
      cases v_ with
      | ref x =>
        have hw : pb_bw CR G FIN mL rz xs r (pc + 3) ls st2 h := hw
        obtain ⟨g1, g2⟩ := toW (ih _ _ _ _ hok2 hw)
        exact ofW ⟨g1, fun hn0 H locs lsA hP hS hl => lv_ifnull hx hb hd (g2 hn0 H locs lsA hP hS hl)⟩
      | null =>
        have hw : G a ls st2 h := hw
        obtain ⟨g1, g2⟩ := toW hw
        exact ofW ⟨g1, fun hn0 H locs lsA hP hS hl => lv_ifnullN hx hb hd (of_decide_eq_true hk) (g2 hn0 H locs lsA hP hS hl)⟩
      | _ => exact False.elim hw
  case ifnonnull off =>
    have hn : n = 3 := hn
    subst hn
    cases st with
    | nil => exact False.elim hw
    | cons v_ st2 =>
      cases v_ with
      | null =>
        have hw : pb_bw CR G FIN mL rz xs r (pc + 3) ls st2 h := hw
        obtain ⟨g1, g2⟩ := toW (ih _ _ _ _ hok2 hw)
        exact ofW ⟨g1, fun hn0 H locs lsA hP hS hl => lv_ifnonnullN hx hb hd (g2 hn0 H locs lsA hP hS hl)⟩
      | ref x =>
        have hw : G a ls st2 h := hw
        obtain ⟨g1, g2⟩ := toW hw
        exact ofW ⟨g1, fun hn0 H locs lsA hP hS hl => lv_ifnonnull hx hb hd (of_decide_eq_true hk) (g2 hn0 H locs lsA hP hS hl)⟩
      | _ => exact False.elim hw
  case tableswitch dd lo hi offs =>
    cases st with
    | nil => exact False.elim hw
    | cons v_ st2 =>
      cases v_ with
      | int x =>
        have hw : G (pb_swt pc dd lo hi offs x) ls st2 h := hw
        obtain ⟨g1, g2⟩ := toW hw
        obtain ⟨k1, k2⟩ := (Bool.and_eq_true _ _).mp hk
        obtain ⟨k3, k4, k5⟩ := of_decide_eq_true k1
        refine ofW ⟨g1, fun hn0 H locs lsA hP hS hl => ?_⟩
        have g2 := g2 hn0 H locs lsA hP hS hl
        unfold pb_swt at g2
        by_cases q : x.toInt < lo ∨ hi < x.toInt
        · rw [if_pos q] at g2
          exact lv_tableOut hx hb hd q (by omega) g2
        · rw [if_neg q] at g2
          have hlt : (x.toInt - lo).toNat < offs.size := by rw [k5]; omega
          have e1 : offs.getD (x.toInt - lo).toNat 0 = offs[(x.toInt - lo).toNat] := by simp [Array.getD, hlt]
          have k6 := of_decide_eq_true ((Array.all_eq_true.mp k2) _ hlt)
          rw [e1] at g2
          exact lv_tableIn hx hb hd (fun z => q (Or.inl z)) (fun z => q (Or.inr z)) (Array.getElem?_eq_getElem hlt) (by omega) g2
      | _ => exact False.elim hw
  case ireturn =>
    have hn : n = 1 := hn
    subst hn
    cases st with
    | nil => exact False.elim hw
    | cons v_ s_ =>
      cases v_ with
      | int x =>
        cases s_ with
        | nil =>
          have hw : (rz = 1 → x = 0 ∨ x = 1) ∧ FIN (some (.int x)) h := hw
          exact ofW ⟨hFm _ _ hw.2, fun hn0 H locs lsA hP hS hl => hF .ireturn _ pc lsA [.int x] h H locs (Or.inl ⟨rfl, x, rfl, rfl, hw.1⟩) hrk hd hw.2 hn0 hP hS⟩
        | cons _ _ => exact False.elim hw
      | _ => exact False.elim hw
  case lreturn =>
    have hn : n = 1 := hn
    subst hn
    cases st with
    | nil => exact False.elim hw
    | cons v_ s_ =>
      cases v_ with
      | long x =>
        cases s_ with
        | nil =>
          have hw : FIN (some (.long x)) h := hw
          exact ofW ⟨hFm _ _ hw, fun hn0 H locs lsA hP hS hl => hF .lreturn _ pc lsA [.long x] h H locs (Or.inr (Or.inl ⟨rfl, x, rfl, rfl⟩)) hrk hd hw hn0 hP hS⟩
        | cons _ _ => exact False.elim hw
      | _ => exact False.elim hw
  case areturn =>
    have hn : n = 1 := hn
    subst hn
    cases st with
    | nil => exact False.elim hw
    | cons v_ s_ =>
      cases v_ with
      | ref x =>
        cases s_ with
        | nil =>
          have hw : FIN (some (.ref x)) h := hw
          exact ofW ⟨hFm _ _ hw, fun hn0 H locs lsA hP hS hl => hF .areturn _ pc lsA [.ref x] h H locs (Or.inr (Or.inr (Or.inl ⟨rfl, Or.inl ⟨x, rfl, rfl⟩⟩))) hrk hd hw hn0 hP hS⟩
        | cons _ _ => exact False.elim hw
      | null =>
        cases s_ with
        | nil =>
          have hw : FIN (some .null) h := hw
          exact ofW ⟨hFm _ _ hw, fun hn0 H locs lsA hP hS hl => hF .areturn _ pc lsA [.null] h H locs (Or.inr (Or.inr (Or.inl ⟨rfl, Or.inr ⟨rfl, rfl⟩⟩))) hrk hd hw hn0 hP hS⟩
        | cons _ _ => exact False.elim hw
      | _ => exact False.elim hw
  case return_ =>
    have hn : n = 1 := hn
    subst hn
    cases st with
    | nil =>
      have hw : FIN none h := hw
      exact ofW ⟨hFm _ _ hw, fun hn0 H locs lsA hP hS hl => hF .return_ _ pc lsA [] h H locs (Or.inr (Or.inr (Or.inr ⟨rfl, rfl, rfl⟩))) hrk hd hw hn0 hP hS⟩
    | cons _ _ => exact False.elim hw
  case idiv =>
    have hn : n = 1 := hn
    subst hn
    cases st with
    | nil => exact False.elim hw
    | cons v_ s_ =>
      cases v_ with
      | int y =>
        cases s_ with
        | nil => exact False.elim hw
        | cons v_ st2 =>
          cases v_ with
          | int x =>
            have hw : ¬ y = 0 ∧ pb_bw CR G FIN mL rz xs r (pc + 1) ls (.int (x / y) :: st2) h := hw
            obtain ⟨g1, g2⟩ := toW (ih _ _ _ _ hok2 hw.2)
            exact ofW ⟨g1, fun hn0 H locs lsA hP hS hl => lv_idiv hx hb hd hw.1 (g2 hn0 H locs lsA hP hS hl)⟩
          | _ => exact False.elim hw
      | _ => exact False.elim hw
  case irem =>
    have hn : n = 1 := hn
    subst hn
    cases st with
    | nil => exact False.elim hw
    | cons v_ s_ =>
      cases v_ with
      | int y =>
        cases s_ with
        | nil => exact False.elim hw
        | cons v_ st2 =>
          cases v_ with
          | int x =>
            have hw : ¬ y = 0 ∧ pb_bw CR G FIN mL rz xs r (pc + 1) ls (.int (x - x / y * y) :: st2) h := hw
            obtain ⟨g1, g2⟩ := toW (ih _ _ _ _ hok2 hw.2)
            exact ofW ⟨g1, fun hn0 H locs lsA hP hS hl => lv_irem hx hb hd hw.1 (g2 hn0 H locs lsA hP hS hl)⟩
          | _ => exact False.elim hw
      | _ => exact False.elim hw
  case ldiv =>
    have hn : n = 1 := hn
    subst hn
    cases st with
    | nil => exact False.elim hw
    | cons v_ s_ =>
      cases v_ with
      | long y =>
        cases s_ with
        | nil => exact False.elim hw
        | cons v_ st2 =>
          cases v_ with
          | long x =>
            have hw : ¬ y = 0 ∧ pb_bw CR G FIN mL rz xs r (pc + 1) ls (.long (x / y) :: st2) h := hw
            obtain ⟨g1, g2⟩ := toW (ih _ _ _ _ hok2 hw.2)
            exact ofW ⟨g1, fun hn0 H locs lsA hP hS hl => lv_ldiv hx hb hd hw.1 (g2 hn0 H locs lsA hP hS hl)⟩
          | _ => exact False.elim hw
      | _ => exact False.elim hw
  case lrem =>
    have hn : n = 1 := hn
    subst hn
    cases st with
    | nil => exact False.elim hw
    | cons v_ s_ =>
      cases v_ with
      | long y =>
        cases s_ with
        | nil => exact False.elim hw
        | cons v_ st2 =>
          cases v_ with
          | long x =>
            have hw : ¬ y = 0 ∧ pb_bw CR G FIN mL rz xs r (pc + 1) ls (.long (x - x / y * y) :: st2) h := hw
            obtain ⟨g1, g2⟩ := toW (ih _ _ _ _ hok2 hw.2)
            exact ofW ⟨g1, fun hn0 H locs lsA hP hS hl => lv_lrem hx hb hd hw.1 (g2 hn0 H locs lsA hP hS hl)⟩
          | _ => exact False.elim hw
      | _ => exact False.elim hw
  case getfield idx =>
    have hn : n = 3 := hn
    subst hn
    cases st with
    | nil => exact False.elim hw
    | cons v_ st2 =>
      cases v_ with
      | ref o =>
        have hi : pb_is h o a := hw.1
        obtain ⟨k1, k2⟩ := (Bool.and_eq_true _ _).mp hk
        obtain ⟨ha, hbN⟩ := of_decide_eq_true k1
        have hcs : pb_ty a b = 1 ∨ pb_ty a b = 2 ∨ (pb_ty a b ≠ 1 ∧ pb_ty a b ≠ 2) := by omega
        have hw2 := hw.2
        rcases hcs with ht | ht | ht
        · rw [ht] at hw2
          have hw : pb_bw CR G FIN mL rz xs r (pc + 3) ls (.long (pb_J h o b) :: st2) h := hw2
          obtain ⟨g1, g2⟩ := toW (ih _ _ _ _ hok2 hw)
          refine ofW ⟨g1, fun hn0 H locs lsA hP hS hl => ?_⟩
          refine va_get (D := (dC, dI)) (ci := a) (v := .long (pb_J h o b)) (C := pb_cn a) (T := pb_T a) (N := pb_nF a) hx hb hts (pb_uin ha) hown hK hP o ((pb_ws_at hi.1).trans (by rw [pb_ce_o hi.2 ha])) (pb_cl_at ha) b hbN (hts _ (pb_tbl_in (pb_fok_mem how k2) rfl)) (fun _ h9 => h9) ((pb_fs_at hbN).trans ?_) hd (g2 hn0 H locs lsA hP hS hl)
          unfold pb_fv
          rw [ht]
          rfl
        · rw [ht] at hw2
          obtain ⟨q, hq, hw2⟩ := hw2
          have hw : pb_bw CR G FIN mL rz xs r (pc + 3) ls (.ref q :: st2) h := hw2
          obtain ⟨g1, g2⟩ := toW (ih _ _ _ _ hok2 hw)
          refine ofW ⟨g1, fun hn0 H locs lsA hP hS hl => ?_⟩
          refine va_get (D := (dC, dI)) (ci := a) (v := .ref (base + q)) (C := pb_cn a) (T := pb_T a) (N := pb_nF a) hx hb hts (pb_uin ha) hown hK hP o ((pb_ws_at hi.1).trans (by rw [pb_ce_o hi.2 ha])) (pb_cl_at ha) b hbN (hts _ (pb_tbl_in (pb_fok_mem how k2) rfl)) (fun _ h9 => h9) ((pb_fs_at hbN).trans ?_) hd (g2 hn0 H locs lsA hP hS hl)
          unfold pb_fv
          rw [ht]
          show some (va_rf ((pb_R h o b).map (base + ·))) = _
          rw [hq]
          rfl
        · have hw2 : pb_bw CR G FIN mL rz xs r (pc + 3) ls (.int (pb_I h o b) :: st2) h := by
            split at hw2
            · exact absurd (by assumption) ht.1
            · exact absurd (by assumption) ht.2
            · exact hw2
          have hw : pb_bw CR G FIN mL rz xs r (pc + 3) ls (.int (pb_I h o b) :: st2) h := hw2
          obtain ⟨g1, g2⟩ := toW (ih _ _ _ _ hok2 hw)
          refine ofW ⟨g1, fun hn0 H locs lsA hP hS hl => ?_⟩
          refine va_get (D := (dC, dI)) (ci := a) (v := .int (pb_I h o b)) (C := pb_cn a) (T := pb_T a) (N := pb_nF a) hx hb hts (pb_uin ha) hown hK hP o ((pb_ws_at hi.1).trans (by rw [pb_ce_o hi.2 ha])) (pb_cl_at ha) b hbN (hts _ (pb_tbl_in (pb_fok_mem how k2) rfl)) (fun _ h9 => h9) ((pb_fs_at hbN).trans ?_) hd (g2 hn0 H locs lsA hP hS hl)
          unfold pb_fv
          split
          · exact absurd (by assumption) ht.1
          · exact absurd (by assumption) ht.2
          · rfl
      | _ => exact False.elim hw
  case putfield idx =>
    have hn : n = 3 := hn
    subst hn
    cases st with
    | nil => exact False.elim hw
    | cons v_ s_ =>
      cases v_ with
      | int v =>
        cases s_ with
        | nil => exact False.elim hw
        | cons v2_ st2 =>
          cases v2_ with
          | ref o =>
            have hi : pb_is h o a := hw.1
            obtain ⟨k1, k5⟩ := (Bool.and_eq_true _ _).mp hk
            obtain ⟨ha, hbN⟩ := of_decide_eq_true k1
            obtain ⟨k6, k4⟩ := (Bool.and_eq_true _ _).mp k5
            obtain ⟨k2, k3⟩ := (Bool.and_eq_true _ _).mp k6
            have htk := pb_uk ha hbN
            have hw2 := hw.2
            have hft0 : (pb_ty a b = 0 ∨ pb_ty a b = 3 ∧ (v = 0 ∨ v = 1)) ∧ pb_bw CR G FIN mL rz xs r (pc + 3) ls st2 (pb_pI h o b v) := by
              split at hw2
              · exact ⟨Or.inl (by assumption), hw2⟩
              · exact ⟨Or.inr ⟨by assumption, hw2.1⟩, hw2.2⟩
              · exact False.elim hw2
            obtain ⟨ht, hw3⟩ := hft0
            obtain ⟨g1, g2⟩ := toW (ih _ _ _ _ hok2 hw3)
            refine ofW ⟨g1, fun hn0 H locs lsA hP hS hl => ?_⟩
            have e1 : (pb_ws base cA h)[o]? = some (base + o, .inr (a, (List.range (pb_nF a)).map (pb_fv base h o a))) := (pb_ws_at hi.1).trans (by rw [pb_ce_o hi.2 ha])
            have hD := pb_ws_D base cA h
            have hlen : b < ((List.range (pb_nF a)).map (pb_fv base h o a)).length := by simpa using hbN
            have hlink := hts _ (pb_tbl_in (pb_fok_mem how k2) rfl)
            have hft : narrow (pb_TY a b) (.int v) = .int v ∧ fits (pb_TY a b) (.int v) = true := pb_fit_i htk ht
            cases hfin : (pb_T a b).2.2.2 with
            | false =>
              refine va_put (D := (dC, dI)) (ci := a) (v := .int v) (ty := pb_TY a b) (C := pb_cn a) (T := pb_T a) (N := pb_nF a) hx hb hts (pb_uin ha) (pb_TY a) (pb_uty ha) (pb_unm ha) hown hK hP hD hS o e1 (pb_cl_at ha) b hbN hlink (fun _ h9 => h9) hfin (pb_uty ha b hbN) hft.1 hft.2 hlen hd (fun H1 locs1 hP1 _ hS1 => ?_)
              rw [pb_ws_pI hi.1 hi.2 ha hbN (ht.elim Or.inl (fun z => Or.inr z.1))] at hP1
              exact g2 hn0 H1 locs1 lsA hP1 hS1 hl
            | true =>
              have hini2 : ini = true := by
                rw [hfin] at k3
                simpa using k3
              have hdecl : (pb_T a b).1 = pb_own ow := by
                rw [hfin] at k4
                simpa using k4
              refine va_putF (D := (dC, dI)) (ci := a) (v := .int v) (ty := pb_TY a b) (C := pb_cn a) (T := pb_T a) (N := pb_nF a) hx hb hts (pb_uin ha) (pb_TY a) (pb_uty ha) (pb_unm ha) hown hK hP hD hS o e1 (pb_cl_at ha) b hbN hlink (fun _ h9 => h9) hfin (hini hini2) hdecl (pb_uty ha b hbN) hft.1 hft.2 hlen hd (fun H1 locs1 hP1 _ hS1 => ?_)
              rw [pb_ws_pI hi.1 hi.2 ha hbN (ht.elim Or.inl (fun z => Or.inr z.1))] at hP1
              exact g2 hn0 H1 locs1 lsA hP1 hS1 hl
          | _ => exact False.elim hw
      | long v =>
        cases s_ with
        | nil => exact False.elim hw
        | cons v2_ st2 =>
          cases v2_ with
          | ref o =>
            have hi : pb_is h o a := hw.1
            obtain ⟨k1, k5⟩ := (Bool.and_eq_true _ _).mp hk
            obtain ⟨ha, hbN⟩ := of_decide_eq_true k1
            obtain ⟨k6, k4⟩ := (Bool.and_eq_true _ _).mp k5
            obtain ⟨k2, k3⟩ := (Bool.and_eq_true _ _).mp k6
            have htk := pb_uk ha hbN
            have hw2 := hw.2
            have hft0 : pb_ty a b = 1 ∧ pb_bw CR G FIN mL rz xs r (pc + 3) ls st2 (pb_pJ h o b v) := by
              split at hw2
              · exact ⟨by assumption, hw2⟩
              · exact False.elim hw2
            obtain ⟨ht, hw3⟩ := hft0
            obtain ⟨g1, g2⟩ := toW (ih _ _ _ _ hok2 hw3)
            refine ofW ⟨g1, fun hn0 H locs lsA hP hS hl => ?_⟩
            have e1 : (pb_ws base cA h)[o]? = some (base + o, .inr (a, (List.range (pb_nF a)).map (pb_fv base h o a))) := (pb_ws_at hi.1).trans (by rw [pb_ce_o hi.2 ha])
            have hD := pb_ws_D base cA h
            have hlen : b < ((List.range (pb_nF a)).map (pb_fv base h o a)).length := by simpa using hbN
            have hlink := hts _ (pb_tbl_in (pb_fok_mem how k2) rfl)
            have hft : narrow (pb_TY a b) (.long v) = .long v ∧ fits (pb_TY a b) (.long v) = true := pb_fit_l (htk.trans ht)
            cases hfin : (pb_T a b).2.2.2 with
            | false =>
              refine va_put (D := (dC, dI)) (ci := a) (v := .long v) (ty := pb_TY a b) (C := pb_cn a) (T := pb_T a) (N := pb_nF a) hx hb hts (pb_uin ha) (pb_TY a) (pb_uty ha) (pb_unm ha) hown hK hP hD hS o e1 (pb_cl_at ha) b hbN hlink (fun _ h9 => h9) hfin (pb_uty ha b hbN) hft.1 hft.2 hlen hd (fun H1 locs1 hP1 _ hS1 => ?_)
              rw [pb_ws_pJ hi.1 hi.2 ha hbN ht] at hP1
              exact g2 hn0 H1 locs1 lsA hP1 hS1 hl
            | true =>
              have hini2 : ini = true := by
                rw [hfin] at k3
                simpa using k3
              have hdecl : (pb_T a b).1 = pb_own ow := by
                rw [hfin] at k4
                simpa using k4
              refine va_putF (D := (dC, dI)) (ci := a) (v := .long v) (ty := pb_TY a b) (C := pb_cn a) (T := pb_T a) (N := pb_nF a) hx hb hts (pb_uin ha) (pb_TY a) (pb_uty ha) (pb_unm ha) hown hK hP hD hS o e1 (pb_cl_at ha) b hbN hlink (fun _ h9 => h9) hfin (hini hini2) hdecl (pb_uty ha b hbN) hft.1 hft.2 hlen hd (fun H1 locs1 hP1 _ hS1 => ?_)
              rw [pb_ws_pJ hi.1 hi.2 ha hbN ht] at hP1
              exact g2 hn0 H1 locs1 lsA hP1 hS1 hl
          | _ => exact False.elim hw
      | ref v =>
        cases s_ with
        | nil => exact False.elim hw
        | cons v2_ st2 =>
          cases v2_ with
          | ref o =>
            have hi : pb_is h o a := hw.1
            obtain ⟨k1, k5⟩ := (Bool.and_eq_true _ _).mp hk
            obtain ⟨ha, hbN⟩ := of_decide_eq_true k1
            obtain ⟨k6, k4⟩ := (Bool.and_eq_true _ _).mp k5
            obtain ⟨k2, k3⟩ := (Bool.and_eq_true _ _).mp k6
            have htk := pb_uk ha hbN
            have hw2 := hw.2
            have hft0 : pb_ty a b = 2 ∧ pb_bw CR G FIN mL rz xs r (pc + 3) ls st2 (pb_pR h o b (some v)) := by
              split at hw2
              · exact ⟨by assumption, hw2⟩
              · exact False.elim hw2
            obtain ⟨ht, hw3⟩ := hft0
            obtain ⟨g1, g2⟩ := toW (ih _ _ _ _ hok2 hw3)
            refine ofW ⟨g1, fun hn0 H locs lsA hP hS hl => ?_⟩
            have e1 : (pb_ws base cA h)[o]? = some (base + o, .inr (a, (List.range (pb_nF a)).map (pb_fv base h o a))) := (pb_ws_at hi.1).trans (by rw [pb_ce_o hi.2 ha])
            have hD := pb_ws_D base cA h
            have hlen : b < ((List.range (pb_nF a)).map (pb_fv base h o a)).length := by simpa using hbN
            have hlink := hts _ (pb_tbl_in (pb_fok_mem how k2) rfl)
            have hft : narrow (pb_TY a b) (.ref (base + v)) = .ref (base + v) ∧ fits (pb_TY a b) (.ref (base + v)) = true := pb_fit_r (htk.trans ht)
            cases hfin : (pb_T a b).2.2.2 with
            | false =>
              refine va_put (D := (dC, dI)) (ci := a) (v := .ref (base + v)) (ty := pb_TY a b) (C := pb_cn a) (T := pb_T a) (N := pb_nF a) hx hb hts (pb_uin ha) (pb_TY a) (pb_uty ha) (pb_unm ha) hown hK hP hD hS o e1 (pb_cl_at ha) b hbN hlink (fun _ h9 => h9) hfin (pb_uty ha b hbN) hft.1 hft.2 hlen hd (fun H1 locs1 hP1 _ hS1 => ?_)
              rw [pb_ws_pR hi.1 hi.2 ha hbN ht] at hP1
              exact g2 hn0 H1 locs1 lsA hP1 hS1 hl
            | true =>
              have hini2 : ini = true := by
                rw [hfin] at k3
                simpa using k3
              have hdecl : (pb_T a b).1 = pb_own ow := by
                rw [hfin] at k4
                simpa using k4
              refine va_putF (D := (dC, dI)) (ci := a) (v := .ref (base + v)) (ty := pb_TY a b) (C := pb_cn a) (T := pb_T a) (N := pb_nF a) hx hb hts (pb_uin ha) (pb_TY a) (pb_uty ha) (pb_unm ha) hown hK hP hD hS o e1 (pb_cl_at ha) b hbN hlink (fun _ h9 => h9) hfin (hini hini2) hdecl (pb_uty ha b hbN) hft.1 hft.2 hlen hd (fun H1 locs1 hP1 _ hS1 => ?_)
              rw [pb_ws_pR hi.1 hi.2 ha hbN ht] at hP1
              exact g2 hn0 H1 locs1 lsA hP1 hS1 hl
          | _ => exact False.elim hw
      | _ => exact False.elim hw
  case iaload =>
    have hn : n = 1 := hn
    subst hn
    cases st with
    | nil => exact False.elim hw
    | cons v_ s_ =>
      cases v_ with
      | int i =>
        cases s_ with
        | nil => exact False.elim hw
        | cons v2_ st2 =>
          cases v2_ with
          | ref o =>
            have hw2 : pb_ar h o 12 i ∧ pb_bw CR G FIN mL rz xs r (pc + 1) ls (.int (pb_I h o i.toNatClampNeg) :: st2) h := hw
            obtain ⟨⟨hi, hin⟩, hw3⟩ := hw2
            obtain ⟨g1, g2⟩ := toW (ih _ _ _ _ hok2 hw3)
            refine ofW ⟨g1, fun hn0 H locs lsA hP hS hl => ?_⟩
            exact va_iald hx hb hK hP o 0 ((pb_ws_at hi.1).trans (by rw [pb_ce_i hi.2 (by omega) (by omega)])) rfl (pb_in_vp hin) hd (g2 hn0 H locs lsA hP hS hl)
          | retAddr k =>
            have hw2 : pb_in i (pb_E xs k).length ∧ pb_bw CR G FIN mL rz xs r (pc + 1) ls (.int ((pb_E xs k).getD i.toNatClampNeg 0) :: st2) h := hw
            obtain ⟨hin, hw3⟩ := hw2
            obtain ⟨g1, g2⟩ := toW (ih _ _ _ _ hok2 hw3)
            have hk15 : 1 ≤ k ∧ k ≤ 5 := pb_E_k hin
            exact ofW ⟨g1, fun hn0 H locs lsA hP hS hl => va_ti hx hb (hT k hk15.1 hk15.2) hS (pb_in_vp hin) rfl hd (g2 hn0 H locs lsA hP hS hl)⟩
          | _ => exact False.elim hw
      | _ => exact False.elim hw
  case iastore =>
    have hn : n = 1 := hn
    subst hn
    cases st with
    | nil => exact False.elim hw
    | cons v_ s_ =>
      cases v_ with
      | int v =>
        cases s_ with
        | nil => exact False.elim hw
        | cons v_ s_ =>
          cases v_ with
          | int i =>
            cases s_ with
            | nil => exact False.elim hw
            | cons v_ st2 =>
              cases v_ with
              | ref o =>
                have hw2 : pb_ar h o 12 i ∧ pb_bw CR G FIN mL rz xs r (pc + 1) ls st2 (pb_pI h o i.toNatClampNeg v) := hw
                obtain ⟨⟨hi, hin⟩, hw3⟩ := hw2
                obtain ⟨g1, g2⟩ := toW (ih _ _ _ _ hok2 hw3)
                refine ofW ⟨g1, fun hn0 H locs lsA hP hS hl => ?_⟩
                refine va_iast hx hb hK hP (pb_ws_D base cA h) hS o 0 ((pb_ws_at hi.1).trans (by rw [pb_ce_i hi.2 (by omega) (by omega)])) rfl (pb_in_vp hin) hd (fun H1 locs1 hP1 _ hS1 => ?_)
                rw [pb_ws_pW hi.1 hi.2 (by omega) (by omega)] at hP1
                exact g2 hn0 H1 locs1 lsA hP1 hS1 hl
              | _ => exact False.elim hw
          | _ => exact False.elim hw
      | _ => exact False.elim hw
  case baload =>
    have hn : n = 1 := hn
    subst hn
    cases st with
    | nil => exact False.elim hw
    | cons v_ s_ =>
      cases v_ with
      | int i =>
        cases s_ with
        | nil => exact False.elim hw
        | cons v_ st2 =>
          cases v_ with
          | ref o =>
            have hcs : (a = 13 ∧ pb_ar h o 13 i ∧ pb_bw CR G FIN mL rz xs r (pc + 1) ls (.int (pb_I h o i.toNatClampNeg) :: st2) h) ∨ (a = 14 ∧ pb_ar h o 14 i ∧ pb_bw CR G FIN mL rz xs r (pc + 1) ls (.int (pb_I h o i.toNatClampNeg) :: st2) h) := pb_ba hw
            rcases hcs with ⟨ea, hw2⟩ | ⟨ea, hw2⟩
            · obtain ⟨⟨hi, hin⟩, hw3⟩ := hw2
              obtain ⟨g1, g2⟩ := toW (ih _ _ _ _ hok2 hw3)
              refine ofW ⟨g1, fun hn0 H locs lsA hP hS hl => ?_⟩
              exact va_bald hx hb hK hP o 1 ((pb_ws_at hi.1).trans (by rw [pb_ce_i hi.2 (by omega) (by omega)])) rfl (pb_in_vp hin) hd (g2 hn0 H locs lsA hP hS hl)
            · obtain ⟨⟨hi, hin⟩, hw3⟩ := hw2
              obtain ⟨g1, g2⟩ := toW (ih _ _ _ _ hok2 hw3)
              refine ofW ⟨g1, fun hn0 H locs lsA hP hS hl => ?_⟩
              exact va_zald hx hb hK hP o 2 ((pb_ws_at hi.1).trans (by rw [pb_ce_i hi.2 (by omega) (by omega)])) rfl (pb_in_vp hin) hd (g2 hn0 H locs lsA hP hS hl)
          | _ => exact False.elim hw
      | _ => exact False.elim hw
  case bastore =>
    have hn : n = 1 := hn
    subst hn
    cases st with
    | nil => exact False.elim hw
    | cons v_ s_ =>
      cases v_ with
      | int v =>
        cases s_ with
        | nil => exact False.elim hw
        | cons v_ s_ =>
          cases v_ with
          | int i =>
            cases s_ with
            | nil => exact False.elim hw
            | cons v_ st2 =>
              cases v_ with
              | ref o =>
                have hcs : (a = 13 ∧ pb_ar h o 13 i ∧ pb_bw CR G FIN mL rz xs r (pc + 1) ls st2 (pb_pI h o i.toNatClampNeg v.toInt8.toInt32)) ∨ (a = 14 ∧ pb_ar h o 14 i ∧ (v = 0 ∨ v = 1) ∧ pb_bw CR G FIN mL rz xs r (pc + 1) ls st2 (pb_pI h o i.toNatClampNeg v)) := pb_ba hw
                rcases hcs with ⟨ea, hw2⟩ | ⟨ea, hw2⟩
                · obtain ⟨⟨hi, hin⟩, hw3⟩ := hw2
                  obtain ⟨g1, g2⟩ := toW (ih _ _ _ _ hok2 hw3)
                  refine ofW ⟨g1, fun hn0 H locs lsA hP hS hl => ?_⟩
                  refine va_bast hx hb hK hP (pb_ws_D base cA h) hS o 1 ((pb_ws_at hi.1).trans (by rw [pb_ce_i hi.2 (by omega) (by omega)])) rfl (pb_in_vp hin) hd (fun H1 locs1 hP1 _ hS1 => ?_)
                  rw [pb_ws_pW hi.1 hi.2 (by omega) (by omega)] at hP1
                  exact g2 hn0 H1 locs1 lsA hP1 hS1 hl
                · obtain ⟨⟨hi, hin⟩, hz, hw3⟩ := hw2
                  obtain ⟨g1, g2⟩ := toW (ih _ _ _ _ hok2 hw3)
                  refine ofW ⟨g1, fun hn0 H locs lsA hP hS hl => ?_⟩
                  refine va_zast hx hb hK hP (pb_ws_D base cA h) hS o 2 ((pb_ws_at hi.1).trans (by rw [pb_ce_i hi.2 (by omega) (by omega)])) rfl (pb_in_vp hin) hd (fun H1 locs1 hP1 _ hS1 => ?_)
                  rw [pb_nar_z hz, pb_ws_pW hi.1 hi.2 (by omega) (by omega)] at hP1
                  exact g2 hn0 H1 locs1 lsA hP1 hS1 hl
              | _ => exact False.elim hw
          | _ => exact False.elim hw
      | _ => exact False.elim hw
  case aaload =>
    have hn : n = 1 := hn
    subst hn
    cases st with
    | nil => exact False.elim hw
    | cons v_ s_ =>
      cases v_ with
      | int i =>
        cases s_ with
        | nil => exact False.elim hw
        | cons v_ st2 =>
          cases v_ with
          | ref o =>
            have hw2 : (15 ≤ a ∧ a < 18) ∧ pb_ar h o a i ∧ ∃ q, pb_R h o i.toNatClampNeg = some q ∧ pb_bw CR G FIN mL rz xs r (pc + 1) ls (.ref q :: st2) h := hw
            obtain ⟨ha, ⟨hi, hin⟩, q, hq, hw3⟩ := hw2
            obtain ⟨g1, g2⟩ := toW (ih _ _ _ _ hok2 hw3)
            refine ofW ⟨g1, fun hn0 H locs lsA hP hS hl => ?_⟩
            have g2 := g2 hn0 H locs lsA hP hS hl
            have e1 : (pb_ws base cA h)[o]? = some (base + o, .inl (cA a, (pb_SH o).2, .inr (.inr (.inr (.inr (fun j => (pb_R h o j).map (base + ·))))))) := (pb_ws_at hi.1).trans (by rw [pb_ce_r hi.2 ha.1])
            have e2 : (pb_tys cA)[a - 12]? = some (cA a, .object (pb_cn (pb_ec a))) := by
              rcases (show a = 15 ∨ a = 16 ∨ a = 17 by omega) with rfl | rfl | rfl
              · rfl
              · rfl
              · rfl
            refine va_aldq hx hb hK hP o (a - 12) e1 e2 (pb_in_vp hin) hd ?_
            rw [hq]
            exact g2
          | _ => exact False.elim hw
      | _ => exact False.elim hw
  case aastore =>
    have hn : n = 1 := hn
    subst hn
    cases st with
    | nil => exact False.elim hw
    | cons v_ s_ =>
      cases v_ with
      | ref v =>
        cases s_ with
        | nil => exact False.elim hw
        | cons v_ s_ =>
          cases v_ with
          | int i =>
            cases s_ with
            | nil => exact False.elim hw
            | cons v_ st2 =>
              cases v_ with
              | ref o =>
                have hw2 : (15 ≤ a ∧ a < 18) ∧ pb_ar h o a i ∧ pb_is h v b ∧ pb_bw CR G FIN mL rz xs r (pc + 1) ls st2 (pb_pR h o i.toNatClampNeg (some v)) := hw
                obtain ⟨ha, ⟨hi, hin⟩, hv, hw3⟩ := hw2
                have hbe : b = pb_ec a := Nat.eq_of_beq_eq_true hk
                have hb12 : b < 12 := by rw [hbe]; unfold pb_ec; split <;> (try split) <;> omega
                obtain ⟨g1, g2⟩ := toW (ih _ _ _ _ hok2 hw3)
                refine ofW ⟨g1, fun hn0 H locs lsA hP hS hl => ?_⟩
                have e1 : (pb_ws base cA h)[o]? = some (base + o, .inl (cA a, (pb_SH o).2, .inr (.inr (.inr (.inr (fun j => (pb_R h o j).map (base + ·))))))) := (pb_ws_at hi.1).trans (by rw [pb_ce_r hi.2 ha.1])
                have e2 : (pb_tys cA)[a - 12]? = some (cA a, .object (pb_cn (pb_ec a), pb_T b, pb_nF b).1) := by
                  rcases (show a = 15 ∨ a = 16 ∨ a = 17 by omega) with rfl | rfl | rfl
                  · rfl
                  · rfl
                  · rfl
                rw [← hbe] at e2
                refine va_astq hx hb hK hP (pb_ws_D base cA h) hS o (a - 12) v b e1 e2 ((pb_ws_at hv.1).trans (by rw [pb_ce_o hv.2 hb12])) (pb_cl_at hb12) (pb_in_vp hin) hd (fun H1 locs1 hP1 _ hS1 => ?_)
                rw [pb_ws_aR hi.1 hi.2 ha.1] at hP1
                exact g2 hn0 H1 locs1 lsA hP1 hS1 hl
              | _ => exact False.elim hw
          | _ => exact False.elim hw
      | _ => exact False.elim hw
  case arraylength =>
    have hn : n = 1 := hn
    subst hn
    cases st with
    | nil => exact False.elim hw
    | cons v_ st2 =>
      cases v_ with
      | ref o =>
        have hw2 : (12 ≤ a ∧ a < 18) ∧ pb_is h o a ∧ pb_bw CR G FIN mL rz xs r (pc + 1) ls (.int (Int32.ofNat (pb_SH o).2) :: st2) h := hw
        obtain ⟨ha, hi, hw3⟩ := hw2
        obtain ⟨g1, g2⟩ := toW (ih _ _ _ _ hok2 hw3)
        refine ofW ⟨g1, fun hn0 H locs lsA hP hS hl => ?_⟩
        have g2 := g2 hn0 H locs lsA hP hS hl
        have e2 : ∃ ty, (pb_tys cA)[a - 12]? = some (cA a, ty) := by
          rcases (show a = 12 ∨ a = 13 ∨ a = 14 ∨ a = 15 ∨ a = 16 ∨ a = 17 by omega) with rfl | rfl | rfl | rfl | rfl | rfl <;> exact ⟨_, rfl⟩
        obtain ⟨ty, e2⟩ := e2
        by_cases h15 : a < 15
        · exact va_alen (x := ((pb_SH o).2, .inl (pb_I h o))) hx hb hK hP o (a - 12) ((pb_ws_at hi.1).trans (by rw [pb_ce_i hi.2 ha.1 h15])) e2 rfl hd g2
        · exact va_alen (x := ((pb_SH o).2, .inr (.inr (.inr (.inr (fun j => (pb_R h o j).map (base + ·))))))) hx hb hK hP o (a - 12) ((pb_ws_at hi.1).trans (by rw [pb_ce_r hi.2 (by omega)])) e2 rfl hd g2
      | retAddr k =>
        have hw2 : (1 ≤ k ∧ k ≤ 5) ∧ pb_bw CR G FIN mL rz xs r (pc + 1) ls (.int (Int32.ofNat (pb_E xs k).length) :: st2) h := hw
        obtain ⟨g1, g2⟩ := toW (ih _ _ _ _ hok2 hw2.2)
        exact ofW ⟨g1, fun hn0 H locs lsA hP hS hl => va_tlen hx hb (hT k hw2.1.1 hw2.1.2) hS rfl hd (g2 hn0 H locs lsA hP hS hl)⟩
      | _ => exact False.elim hw
  case new idx =>
    have hn : n = 3 := hn
    subst hn
    have hw2 : pb_SH h.1 = (a, 0) ∧ pb_bw CR G FIN mL rz xs r (pc + 3) ls (.ref h.1 :: st) (pb_nw h) := hw
    obtain ⟨hsh, hw3⟩ := hw2
    obtain ⟨k1, k2⟩ := (Bool.and_eq_true _ _).mp hk
    have ha := of_decide_eq_true k1
    obtain ⟨g1, g2⟩ := toW (ih _ _ _ _ hok2 hw3)
    have g1 : h.1 + 1 ≤ mx := g1
    refine ofW ⟨by omega, fun hn0 H locs lsA hP hS hl => ?_⟩
    have hcr : (h.1 - n0) + 1 ≤ R.cells := by omega
    have hsl : pb_sl (h.1 + 1) = pb_sl h.1 + pb_sz h.1 := rfl
    have hs1l := pb_sl_le g1
    have hs2l := pb_sl_le hn0
    have ez : pb_sz h.1 = pb_nF a := by unfold pb_sz; rw [hsh]; exact if_pos ha
    have he : pb_ce base cA (pb_nw h) h.1 = .inr (a, (List.range (pb_nF a)).map (pb_fv base (pb_nw h) h.1 a)) := pb_ce_o (by rw [hsh]) ha
    refine va_new (D := (dC, dI)) (ci := a) (fs := (List.range (pb_nF a)).map (pb_fv base (pb_nw h) h.1 a)) (C := pb_cn a) (T := pb_T a) (N := pb_nF a) hx hb hts (pb_uin ha) (pb_TY a) (pb_uty ha) hown (hts _ (pb_tbl_in (pb_cl_mem how k2) rfl)) (hts _ (pb_inst ha)) (hts _ (pb_init ha)) hK hP (pb_ws_D base cA h) hS hA (pb_cl_at ha) (pb_dflt ha) hcr (by omega) hd (fun q H1 hP1 hD1 hS1 => ?_)
    refine pb_size (fun hsize => ?_)
    have hq := pb_fresh hP1 hD1 hsize hsz hn0
    subst hq
    rw [← he, pb_ws_nw (fun k hk => pb_ce_nw hk)] at hP1
    have g2 := g2 (by show n0 ≤ h.1 + 1; omega) H1 locs lsA hP1 hS1 hl
    have ec : (pb_nw h).1 - n0 = h.1 - n0 + 1 := by show h.1 + 1 - n0 = _; omega
    have es : pb_sl (pb_nw h).1 - pb_sl n0 = pb_sl h.1 - pb_sl n0 + pb_nF a := by show pb_sl (h.1 + 1) - pb_sl n0 = _; omega
    rw [ec, es] at g2
    exact g2
  case newarray t =>
    have hn : n = 2 := hn
    subst hn
    cases st with
    | nil => exact False.elim hw
    | cons v_ st2 =>
      cases v_ with
      | int v =>
        have hw2 : 0 ≤ v ∧ pb_SH h.1 = (a, v.toNatClampNeg) ∧ pb_bw CR G FIN mL rz xs r (pc + 2) ls (.ref h.1 :: st2) (pb_nw h) := hw
        obtain ⟨hv0, hsh, hw3⟩ := hw2
        obtain ⟨g1, g2⟩ := toW (ih _ _ _ _ hok2 hw3)
        have g1 : h.1 + 1 ≤ mx := g1
        refine ofW ⟨by omega, fun hn0 H locs lsA hP hS hl => ?_⟩
        have hcr : (h.1 - n0) + 1 ≤ R.cells := by omega
        have hsl : pb_sl (h.1 + 1) = pb_sl h.1 + pb_sz h.1 := rfl
        have hs1l := pb_sl_le g1
        have hs2l := pb_sl_le hn0
        have hlen := pb_SH_small h.1
        rw [hsh] at hlen
        have hlen : v.toNatClampNeg ≤ 3000 := hlen
        have hvn : ¬ v < 0 := by rw [Int32.not_lt]; exact hv0
        have hk : (a = 12 ∧ t = .int) ∨ (a = 13 ∧ t = .byte) ∨ (a = 14 ∧ t = .boolean) := of_decide_eq_true hk
        have ez : pb_sz h.1 = v.toNatClampNeg := by unfold pb_sz; rw [hsh]; exact if_neg (by show ¬ a < 12; omega)
        have he : pb_ce base cA (pb_nw h) h.1 = .inl (cA a, v.toNatClampNeg, .inl (fun _ => 0)) := by
          rw [pb_ce_i (a := a) (by rw [hsh]) (by omega) (by omega), hsh, pb_nw_I]
        rcases hk with ⟨rfl, rfl⟩ | ⟨rfl, rfl⟩ | ⟨rfl, rfl⟩
        · refine va_newa (D := (dC, dI)) (atype := .int) (ty := .int) (a0 := (v.toNatClampNeg, .inl (fun _ => 0))) hx hb (hts _ (pb_tbl_in (pb_ac_0) rfl)) rfl hK hP (pb_ws_D base cA h) hS hA (fun _ => rfl) hvn rfl (by show v.toNatClampNeg * _ ≤ _; simp only [componentBytes]; omega) hcr (by omega) hd (fun q cB H1 hK1 hP1 hD1 hS1 => ?_)
          have ecA : cB = cA 12 := Option.some.inj ((show s.vm.findClass _ = some cB from (hK1.2 6 (cB, .int) rfl).2).symm.trans (show s.vm.findClass _ = some (cA 12) from (hK.2 0 (cA 12, .int) rfl).2))
          rw [ecA] at hP1 hD1
          refine pb_size (fun hsize => ?_)
          have hq := pb_fresh hP1 hD1 hsize hsz hn0
          subst hq
          rw [← he, pb_ws_nw (fun k hk => pb_ce_nw hk)] at hP1
          have g2 := g2 (by show n0 ≤ h.1 + 1; omega) H1 locs lsA hP1 hS1 hl
          have ec : (pb_nw h).1 - n0 = h.1 - n0 + 1 := by show h.1 + 1 - n0 = _; omega
          have es : pb_sl (pb_nw h).1 - pb_sl n0 = pb_sl h.1 - pb_sl n0 + v.toNatClampNeg := by show pb_sl (h.1 + 1) - pb_sl n0 = _; omega
          rw [ec, es] at g2
          exact g2
        · refine va_newa (D := (dC, dI)) (atype := .byte) (ty := .byte) (a0 := (v.toNatClampNeg, .inl (fun _ => 0))) hx hb (hts _ (pb_tbl_in (pb_ac_1) rfl)) rfl hK hP (pb_ws_D base cA h) hS hA (fun _ => rfl) hvn rfl (by show v.toNatClampNeg * _ ≤ _; simp only [componentBytes]; omega) hcr (by omega) hd (fun q cB H1 hK1 hP1 hD1 hS1 => ?_)
          have ecA : cB = cA 13 := Option.some.inj ((show s.vm.findClass _ = some cB from (hK1.2 6 (cB, .byte) rfl).2).symm.trans (show s.vm.findClass _ = some (cA 13) from (hK.2 1 (cA 13, .byte) rfl).2))
          rw [ecA] at hP1 hD1
          refine pb_size (fun hsize => ?_)
          have hq := pb_fresh hP1 hD1 hsize hsz hn0
          subst hq
          rw [← he, pb_ws_nw (fun k hk => pb_ce_nw hk)] at hP1
          have g2 := g2 (by show n0 ≤ h.1 + 1; omega) H1 locs lsA hP1 hS1 hl
          have ec : (pb_nw h).1 - n0 = h.1 - n0 + 1 := by show h.1 + 1 - n0 = _; omega
          have es : pb_sl (pb_nw h).1 - pb_sl n0 = pb_sl h.1 - pb_sl n0 + v.toNatClampNeg := by show pb_sl (h.1 + 1) - pb_sl n0 = _; omega
          rw [ec, es] at g2
          exact g2
        · refine va_newa (D := (dC, dI)) (atype := .boolean) (ty := .boolean) (a0 := (v.toNatClampNeg, .inl (fun _ => 0))) hx hb (hts _ (pb_tbl_in (pb_ac_2) rfl)) rfl hK hP (pb_ws_D base cA h) hS hA (fun _ => rfl) hvn rfl (by show v.toNatClampNeg * _ ≤ _; simp only [componentBytes]; omega) hcr (by omega) hd (fun q cB H1 hK1 hP1 hD1 hS1 => ?_)
          have ecA : cB = cA 14 := Option.some.inj ((show s.vm.findClass _ = some cB from (hK1.2 6 (cB, .boolean) rfl).2).symm.trans (show s.vm.findClass _ = some (cA 14) from (hK.2 2 (cA 14, .boolean) rfl).2))
          rw [ecA] at hP1 hD1
          refine pb_size (fun hsize => ?_)
          have hq := pb_fresh hP1 hD1 hsize hsz hn0
          subst hq
          rw [← he, pb_ws_nw (fun k hk => pb_ce_nw hk)] at hP1
          have g2 := g2 (by show n0 ≤ h.1 + 1; omega) H1 locs lsA hP1 hS1 hl
          have ec : (pb_nw h).1 - n0 = h.1 - n0 + 1 := by show h.1 + 1 - n0 = _; omega
          have es : pb_sl (pb_nw h).1 - pb_sl n0 = pb_sl h.1 - pb_sl n0 + v.toNatClampNeg := by show pb_sl (h.1 + 1) - pb_sl n0 = _; omega
          rw [ec, es] at g2
          exact g2
      | _ => exact False.elim hw
  case anewarray idx =>
    have hn : n = 3 := hn
    subst hn
    cases st with
    | nil => exact False.elim hw
    | cons v_ st2 =>
      cases v_ with
      | int v =>
        have hw2 : 0 ≤ v ∧ pb_SH h.1 = (a, v.toNatClampNeg) ∧ pb_bw CR G FIN mL rz xs r (pc + 3) ls (.ref h.1 :: st2) (pb_nw h) := hw
        obtain ⟨hv0, hsh, hw3⟩ := hw2
        obtain ⟨g1, g2⟩ := toW (ih _ _ _ _ hok2 hw3)
        have g1 : h.1 + 1 ≤ mx := g1
        refine ofW ⟨by omega, fun hn0 H locs lsA hP hS hl => ?_⟩
        have hcr : (h.1 - n0) + 1 ≤ R.cells := by omega
        have hsl : pb_sl (h.1 + 1) = pb_sl h.1 + pb_sz h.1 := rfl
        have hs1l := pb_sl_le g1
        have hs2l := pb_sl_le hn0
        have hlen := pb_SH_small h.1
        rw [hsh] at hlen
        have hlen : v.toNatClampNeg ≤ 3000 := hlen
        have hvn : ¬ v < 0 := by rw [Int32.not_lt]; exact hv0
        obtain ⟨k1, k2⟩ := (Bool.and_eq_true _ _).mp hk
        have ha := of_decide_eq_true k1
        have ez : pb_sz h.1 = v.toNatClampNeg := by unfold pb_sz; rw [hsh]; exact if_neg (by show ¬ a < 12; omega)
        have he : pb_ce base cA (pb_nw h) h.1 = .inl (cA a, v.toNatClampNeg, .inr (.inr (.inr (.inr (fun _ => none))))) := by
          rw [pb_ce_r (a := a) (by rw [hsh]) ha.1, hsh, pb_nw_R]
          rfl
        refine va_newq (D := (dC, dI)) (C := pb_cn (pb_ec a)) hx hb hown (hts _ (pb_tbl_in (pb_al_mem how k2) rfl)) (hAO a ha.1 ha.2) hK hP (pb_ws_D base cA h) hS hA hvn rfl (by omega) hcr (by omega) hd (fun q cB H1 hK1 hP1 hD1 hS1 => ?_)
        have ecA : cB = cA a := by
          have z1 := (hK1.2 6 (cB, .object (pb_cn (pb_ec a))) rfl).2
          obtain ⟨_, _, _, _, _, z2⟩ := z1
          rcases (show a = 15 ∨ a = 16 ∨ a = 17 by omega) with rfl | rfl | rfl
          · obtain ⟨_, _, _, _, _, z3⟩ := (hK.2 3 _ rfl).2
            exact Option.some.inj (z2.symm.trans z3)
          · obtain ⟨_, _, _, _, _, z3⟩ := (hK.2 4 _ rfl).2
            exact Option.some.inj (z2.symm.trans z3)
          · obtain ⟨_, _, _, _, _, z3⟩ := (hK.2 5 _ rfl).2
            exact Option.some.inj (z2.symm.trans z3)
        rw [ecA] at hP1 hD1
        refine pb_size (fun hsize => ?_)
        have hq := pb_fresh hP1 hD1 hsize hsz hn0
        subst hq
        rw [← he, pb_ws_nw (fun k hk => pb_ce_nw hk)] at hP1
        have g2 := g2 (by show n0 ≤ h.1 + 1; omega) H1 locs lsA hP1 hS1 hl
        have ec : (pb_nw h).1 - n0 = h.1 - n0 + 1 := by show h.1 + 1 - n0 = _; omega
        have es : pb_sl (pb_nw h).1 - pb_sl n0 = pb_sl h.1 - pb_sl n0 + v.toNatClampNeg := by show pb_sl (h.1 + 1) - pb_sl n0 = _; omega
        rw [ec, es] at g2
        exact g2
      | _ => exact False.elim hw
  case invokevirtual idx =>
    have hn : n = 3 := hn
    subst hn
    by_cases h2 : a = 1002
    · subst h2
      obtain ⟨ke, kf⟩ := (Bool.and_eq_true _ _).mp hk
      have ke := Nat.eq_of_beq_eq_true ke
      have kf := Nat.eq_of_beq_eq_true kf
      subst kf
      cases st with
      | nil => exact False.elim hw
      | cons v_ s_ =>
        cases v_ with
        | int i =>
          cases s_ with
          | nil => exact False.elim hw
          | cons v2_ st2 =>
            cases v2_ with
            | retAddr k =>
              have hk9 : k = 9 := hw.1
              subst hk9
              have hw2 : pb_in i pb_WD.length ∧ (st2.map Value.category).sum ≤ 8 ∧ pb_bw CR G FIN mL rz xs r (pc + 3) ls (.int (pb_WD.getD i.toNatClampNeg 0) :: st2) h := hw.2
              obtain ⟨hin, hcat0, hw3⟩ := hw2
              obtain ⟨g1, g2⟩ := toW (ih _ _ _ _ hok2 hw3)
              refine ofW ⟨g1, fun hn0 H locs lsA hP hS hl => ?_⟩
              have hs3l := pb_sl_le g1
              exact hCh pc lsA _ H locs _ _ i ke hd hl.1 hS hin (by omega) (by omega) (by rw [pb_cat]; exact hcat0) (g2 hn0 H locs lsA hP hS hl)
            | _ => exact False.elim hw
        | _ => exact False.elim hw
    · have hw2 := pb_nv hw h2
      have hk2 := pb_nk hk h2
      obtain ⟨k1, k2⟩ := (Bool.and_eq_true _ _).mp hk2
      have ha := of_decide_eq_true k1
      obtain ⟨k3, k4⟩ := (Bool.and_eq_true _ _).mp k2
      obtain ⟨k5, k6⟩ := (Bool.and_eq_true _ _).mp k3
      have hkind := Nat.eq_of_beq_eq_true k5
      have hbn0 := Nat.eq_of_beq_eq_true k6
      have hbn : (pb_mh a).2.2.2.2.2 = b - 1 := by omega
      have hb1 : 1 ≤ b := by omega
      have hml2 := pb_mk_mem how h2 k4
      rw [pb_yy_n ha] at hml2
      cases hst : st.drop (b - 1) with
      | nil => rw [hst] at hw2; exact False.elim hw2
      | cons v_ st2 =>
        rw [hst] at hw2
        cases v_ with
        | ref o =>
          obtain ⟨hi, hcat0, hcw, v, h1, hcr0, hw3⟩ := hw2
          have hdr : ∃ pre, st = pre ++ .ref o :: st2 ∧ pre.length = b - 1 := pb_split hst
          obtain ⟨pre, hpe, hpl⟩ := hdr
          have htk : (st.take b).reverse = .ref o :: pre.reverse := pb_take hpe hpl hb1
          rw [htk] at hcr0
          have hmm := hCR _ _ _ _ _ hcr0
          have hmono : h.1 ≤ h1.1 := hmm.1
          have hct := hmm.2 ha (by rw [← htk, List.map_reverse, List.sum_reverse]; exact hcw)
          obtain ⟨g1, g2⟩ := toW (ih _ _ _ _ hok2 hw3)
          refine ofW ⟨Nat.le_trans hmono g1, fun hn0 H locs lsA hP hS hl => ?_⟩
          refine pb_size (fun hsize => ?_)
          have hlow := pb_low hP hS hsz hn0
          have hHs : H.size = base + h.1 := by omega
          have hs1l := pb_sl_le hmono
          have hs2l := pb_sl_le hn0
          have hs3l := pb_sl_le g1
          have hcell : (h.1 - n0) + (h1.1 - h.1) ≤ R.cells := by omega
          have hslot : (pb_sl h.1 - pb_sl n0) + (pb_sl h1.1 - pb_sl h.1) ≤ R.slots := by omega
          have hcat : ((st2.map (pb_vv base cst)).map Value.category).sum ≤ 8 := by rw [pb_cat]; exact hcat0
          obtain ⟨w1, w2, w3, w4, w5, w6, w7, w8, w9⟩ := pb_mw_spec ha
          have hpre : ∀ U : State, U.heap = H → s.WarmedH U.vm → pb_PRE base cst dC dI cA xs h U := fun U hU hW => ⟨by rw [hU]; exact hHs, by rw [hU]; exact hP, by rw [hU]; exact hE.go hW hS.2.1⟩
          have hstk : st.map (pb_vv base cst) = (pre.reverse.map (pb_vv base cst)).reverse ++ .ref (base + o) :: st2.map (pb_vv base cst) := by rw [hpe, List.map_append, List.map_cons, List.map_reverse, List.reverse_reverse]; rfl
          rw [hstk]
          have hgd : GoodIn pb_tbl (wsV (pb_own ow) idx (pb_y a).cls (pb_y a) (.code (pb_y a) (pb_cc a) (pb_mL a) (pb_rt a) :: pb_tbl)) := pb_good (by
              intro w hw
              rcases List.mem_append.mp hw with q | q
              · simp only [List.mem_cons, List.not_mem_nil, or_false] at q
                rcases q with rfl | rfl | rfl | rfl
                · exact pb_tbl_in hml2 rfl
                · exact pb_tbl_in (w9.1 hkind) rfl
                · exact pb_tbl_in (w9.2 hkind).1 rfl
                · exact pb_tbl_in w2 rfl
              · rcases List.mem_cons.mp q with rfl | q
                · exact pb_tbl_in w1 rfl
                · exact q)
          have hrec : ∃ cellB : Cell, H[base + o]? = some cellB ∧ cellB.vm.isStatics = false ∧ s.vm.findClass (pb_y a).cls = some cellB.cls := by
            have hq := va_recv hK hP (pb_cl_at (w9.2 hkind).2.2) ((pb_ws_at hi.1).trans (by rw [pb_ce_o hi.2 (w9.2 hkind).2.2]))
            rw [(w9.2 hkind).2.1] at hq
            exact hq
          refine pb_after (va_runV (As := pre.reverse.map (pb_vv base cst)) (rest := st2.map (pb_vv base cst)) ⟨hx, hb, hml, hown, hts⟩ hct (cwV (b - 1) hts hgd rfl rfl rfl ⟨rfl, w4, w5, by rw [w6, hbn]⟩ ⟨hRf, by show 8 + (pb_mL a + 11) + 64 * d ≤ R.locals; omega⟩) ⟨pb_blind, hrec, fun U hU hW => ⟨rfl, hpre U hU hW⟩⟩ rfl (by simp [hpl]) hl.1 rfl (lv_room hcat) hd ⟨hcell, hslot⟩) hS (fun H1 locs1 hP1 hS1 => ?_)
          obtain ⟨z1, z2⟩ := (⟨by omega, by omega⟩ : h1.1 - n0 = h.1 - n0 + (h1.1 - h.1) ∧ pb_sl h1.1 - pb_sl n0 = pb_sl h.1 - pb_sl n0 + (pb_sl h1.1 - pb_sl h.1))
          have g2 := g2 (Nat.le_trans hn0 hmono) H1 locs1 lsA hP1 hS1 hl
          rw [z1, z2] at g2
          rw [List.map_append, pb_ol] at g2
          exact g2
        | _ => exact False.elim hw2
  case invokespecial idx =>
    have hn : n = 3 := hn
    subst hn
    by_cases h2 : a = 1001
    · subst h2
      cases st with
      | nil => exact False.elim hw
      | cons v_ st2 =>
        cases v_ with
        | ref x =>
          have hw2 : (st2.map Value.category).sum ≤ 8 ∧ pb_bw CR G FIN mL rz xs r (pc + 3) ls st2 h := hw
          obtain ⟨hcat0, hw3⟩ := hw2
          obtain ⟨g1, g2⟩ := toW (ih _ _ _ _ hok2 hw3)
          refine ofW ⟨g1, fun hn0 H locs lsA hP hS hl => ?_⟩
          have hml2 : Jvm.Cond.methodLink (pb_own ow) idx Lib.objectInit ∈ lw_tbl := pb_mk_mem how (by decide) hk
          have hcat : ((st2.map (pb_vv base cst)).map Value.category).sum ≤ 8 := by rw [pb_cat]; exact hcat0
          refine W.objInit hx hb hown (hts _ (pb_tbl_in hml2 rfl)) (hts _ (pb_tbl_in pb_oi_1 rfl)) (hts _ (pb_tbl_in pb_oi_2 rfl)) rfl (hl.1.trans hml.symm) rfl hd (by omega) (by show 2 * 0 + ((st2.map (pb_vv base cst)).map Value.category).sum + 12 ≤ _; omega) ?_
          exact W.eq rfl (g2 hn0 H locs lsA hP hS hl)
        | _ => exact False.elim hw
    · have hw2 := pb_nv1 hw h2
      have hk2 := pb_nk1 hk h2
      obtain ⟨k1, k2⟩ := (Bool.and_eq_true _ _).mp hk2
      have ha := of_decide_eq_true k1
      obtain ⟨k3, k4⟩ := (Bool.and_eq_true _ _).mp k2
      obtain ⟨k5, k6⟩ := (Bool.and_eq_true _ _).mp k3
      have hkind := Nat.eq_of_beq_eq_true k5
      have hbn0 := Nat.eq_of_beq_eq_true k6
      have hbn : (pb_mh a).2.2.2.2.2 = b - 1 := by omega
      have hb1 : 1 ≤ b := by omega
      have hml2 := pb_mk_mem how (by omega) k4
      rw [pb_yy_n ha] at hml2
      cases hst : st.drop (b - 1) with
      | nil => rw [hst] at hw2; exact False.elim hw2
      | cons v_ st2 =>
        rw [hst] at hw2
        cases v_ with
        | ref o =>
          obtain ⟨hcat0, hcw, v, h1, hcr0, hw3⟩ := hw2
          have hdr : ∃ pre, st = pre ++ .ref o :: st2 ∧ pre.length = b - 1 := pb_split hst
          obtain ⟨pre, hpe, hpl⟩ := hdr
          have htk : (st.take b).reverse = .ref o :: pre.reverse := pb_take hpe hpl hb1
          rw [htk] at hcr0
          have hmm := hCR _ _ _ _ _ hcr0
          have hmono : h.1 ≤ h1.1 := hmm.1
          have hct := hmm.2 ha (by rw [← htk, List.map_reverse, List.sum_reverse]; exact hcw)
          obtain ⟨g1, g2⟩ := toW (ih _ _ _ _ hok2 hw3)
          refine ofW ⟨Nat.le_trans hmono g1, fun hn0 H locs lsA hP hS hl => ?_⟩
          refine pb_size (fun hsize => ?_)
          have hlow := pb_low hP hS hsz hn0
          have hHs : H.size = base + h.1 := by omega
          have hs1l := pb_sl_le hmono
          have hs2l := pb_sl_le hn0
          have hs3l := pb_sl_le g1
          have hcell : (h.1 - n0) + (h1.1 - h.1) ≤ R.cells := by omega
          have hslot : (pb_sl h.1 - pb_sl n0) + (pb_sl h1.1 - pb_sl h.1) ≤ R.slots := by omega
          have hcat : ((st2.map (pb_vv base cst)).map Value.category).sum ≤ 8 := by rw [pb_cat]; exact hcat0
          obtain ⟨w1, w2, w3, w4, w5, w6, w7, w8, w9⟩ := pb_mw_spec ha
          have hpre : ∀ U : State, U.heap = H → s.WarmedH U.vm → pb_PRE base cst dC dI cA xs h U := fun U hU hW => ⟨by rw [hU]; exact hHs, by rw [hU]; exact hP, by rw [hU]; exact hE.go hW hS.2.1⟩
          have hstk : st.map (pb_vv base cst) = (pre.reverse.map (pb_vv base cst)).reverse ++ .ref (base + o) :: st2.map (pb_vv base cst) := by rw [hpe, List.map_append, List.map_cons, List.map_reverse, List.reverse_reverse]; rfl
          rw [hstk]
          have hrt : pb_rt a = none := (w8.2 hkind).2
          have hgd : GoodIn pb_tbl (.code (pb_y a) (pb_cc a) (pb_mL a) (pb_rt a) :: pb_tbl) := pb_good (by
              intro w hw
              rcases List.mem_cons.mp hw with rfl | q
              · exact pb_tbl_in w1 rfl
              · exact q)
          unfold pb_Ct at hct
          rw [hrt] at hct hgd
          refine pb_after (va_runI (As := pre.reverse.map (pb_vv base cst)) (rest := st2.map (pb_vv base cst)) ⟨hx, hb, hml, hown, hts⟩ hct (cwI (b - 1) hts hgd rfl rfl rfl (hts _ (pb_tbl_in w2 rfl)) (hts _ (pb_tbl_in hml2 rfl)) (hts _ (pb_tbl_in (w8.1 hkind) rfl)) (w8.2 hkind).1 ⟨w4, w5, by rw [w6, hbn]⟩ ⟨hRf, by show 8 + (pb_mL a + 11) + 64 * d ≤ R.locals; omega⟩) ⟨pb_blind, fun U hU hW => ⟨rfl, hpre U hU hW⟩⟩ rfl (by simp [hpl]) hl.1 rfl (lv_room hcat) hd ⟨hcell, hslot⟩) hS (fun H1 locs1 hP1 hS1 => ?_)
          obtain ⟨z1, z2⟩ := (⟨by omega, by omega⟩ : h1.1 - n0 = h.1 - n0 + (h1.1 - h.1) ∧ pb_sl h1.1 - pb_sl n0 = pb_sl h.1 - pb_sl n0 + (pb_sl h1.1 - pb_sl h.1))
          have g2 := g2 (Nat.le_trans hn0 hmono) H1 locs1 lsA hP1 hS1 hl
          rw [z1, z2] at g2
          rw [List.map_append, pb_ol] at g2
          exact g2
        | _ => exact False.elim hw2
  case invokestatic idx =>
    have hn : n = 3 := hn
    subst hn
    by_cases h0 : a = 1000
    · subst h0
      cases st with
      | nil => exact False.elim hw
      | cons v_ s_ =>
        cases v_ with
        | int k =>
          cases s_ with
          | nil => exact False.elim hw
          | cons v_ s_ =>
            cases v_ with
            | int dp =>
              cases s_ with
              | nil => exact False.elim hw
              | cons v_ s_ =>
                cases v_ with
                | ref o2 =>
                  cases s_ with
                  | nil => exact False.elim hw
                  | cons v_ s_ =>
                    cases v_ with
                    | int sp =>
                      cases s_ with
                      | nil => exact False.elim hw
                      | cons v_ st2 =>
                        cases v_ with
                        | ref o1 =>
                          have hw2 : (b = 12 ∨ (b = 13 ∧ pb_byt (pb_I h o1) sp.toNatClampNeg k.toNatClampNeg)) ∧ pb_is h o1 b ∧ pb_is h o2 b ∧ 0 ≤ sp ∧ 0 ≤ dp ∧ 0 ≤ k ∧ sp.toNatClampNeg + k.toNatClampNeg ≤ (pb_SH o1).2 ∧ dp.toNatClampNeg + k.toNatClampNeg ≤ (pb_SH o2).2 ∧ (st2.map Value.category).sum ≤ 8 ∧ pb_bw CR G FIN mL rz xs r (pc + 3) ls st2 (pb_pW h o2 (va_cpy (pb_I h o1) (pb_I h o2) sp.toNatClampNeg dp.toNatClampNeg k.toNatClampNeg)) := hw
                          obtain ⟨hbk, hi1, hi2, hsp, hdp, hkk, hl1, hl2, hcat0, hw3⟩ := hw2
                          obtain ⟨g1, g2⟩ := toW (ih _ _ _ _ hok2 hw3)
                          refine ofW ⟨g1, fun hn0 H locs lsA hP hS hl => ?_⟩
                          have hml2 : Jvm.Cond.methodLink (pb_own ow) idx arraycopyName ∈ lw_tbl := pb_mk_mem how (by decide) hk
                          have hcat : ((st2.map (pb_vv base cst)).map Value.category).sum ≤ 8 := by rw [pb_cat]; exact hcat0
                          have hnw : nativeFrameWords "java/lang/System" "arraycopy" 5 = 7 := by decide
                          rcases hbk with rfl | ⟨rfl, hby⟩
                          · refine va_copyi (ty := .int) hx hb (hml.trans hl.1.symm) hown (hts _ (pb_tbl_in hml2 rfl)) (hts _ (pb_tbl_in pb_nt_1 rfl)) (hts _ (pb_tbl_in pb_nt_2 rfl)) (hts _ (pb_tbl_in pb_nt_3 rfl)) hK hP (pb_ws_D base cA h) hS o1 o2 0 0 ((pb_ws_at hi1.1).trans (by rw [pb_ce_i hi1.2 (by omega) (by omega)])) ((pb_ws_at hi2.1).trans (by rw [pb_ce_i hi2.2 (by omega) (by omega)])) rfl rfl rfl (by rw [Int32.not_lt]; exact hsp) (by rw [Int32.not_lt]; exact hdp) (by rw [Int32.not_lt]; exact hkk) hl1 hl2 (fun _ _ => rfl) (by omega) (by rw [hnw]; show ((st2.map (pb_vv base cst)).map Value.category).sum + _ ≤ _; omega) hd (fun H1 locs1 hP1 _ hS1 => ?_)
                            rw [pb_ws_pW hi2.1 hi2.2 (by omega) (by omega)] at hP1
                            exact g2 hn0 H1 locs1 lsA hP1 hS1 hl
                          · refine va_copyi (ty := .byte) hx hb (hml.trans hl.1.symm) hown (hts _ (pb_tbl_in hml2 rfl)) (hts _ (pb_tbl_in pb_nt_1 rfl)) (hts _ (pb_tbl_in pb_nt_2 rfl)) (hts _ (pb_tbl_in pb_nt_3 rfl)) hK hP (pb_ws_D base cA h) hS o1 o2 1 1 ((pb_ws_at hi1.1).trans (by rw [pb_ce_i hi1.2 (by omega) (by omega)])) ((pb_ws_at hi2.1).trans (by rw [pb_ce_i hi2.2 (by omega) (by omega)])) rfl rfl rfl (by rw [Int32.not_lt]; exact hsp) (by rw [Int32.not_lt]; exact hdp) (by rw [Int32.not_lt]; exact hkk) hl1 hl2 (fun j hj => by rw [← hby j hj]; exact pk_fb _) (by omega) (by rw [hnw]; show ((st2.map (pb_vv base cst)).map Value.category).sum + _ ≤ _; omega) hd (fun H1 locs1 hP1 _ hS1 => ?_)
                            rw [pb_ws_pW hi2.1 hi2.2 (by omega) (by omega)] at hP1
                            exact g2 hn0 H1 locs1 lsA hP1 hS1 hl
                        | _ => exact False.elim hw
                    | _ => exact False.elim hw
                | _ => exact False.elim hw
            | _ => exact False.elim hw
        | _ => exact False.elim hw
    by_cases h1003 : a = 1003
    · subst h1003
      cases st with
      | nil => exact False.elim hw
      | cons v_ s_ =>
        cases v_ with
        | int y =>
          cases s_ with
          | nil => exact False.elim hw
          | cons v_ st2 =>
            cases v_ with
            | int x =>
              have hw2 : (st2.map Value.category).sum ≤ 8 ∧ pb_bw CR G FIN mL rz xs r (pc + 3) ls (.int (if x < y then y else x) :: st2) h := hw
              obtain ⟨hcat0, hw3⟩ := hw2
              obtain ⟨g1, g2⟩ := toW (ih _ _ _ _ hok2 hw3)
              refine ofW ⟨g1, fun hn0 H locs lsA hP hS hl => ?_⟩
              have hml2 : Jvm.Cond.methodLink (pb_own ow) idx Lib.Math.max.name ∈ lw_tbl := pb_mk_mem how (by decide) hk
              have hcat : ((st2.map (pb_vv base cst)).map Value.category).sum ≤ 8 := by rw [pb_cat]; exact hcat0
              have hs3l := pb_sl_le g1
              exact va_mmax hx hb (hml.trans hl.1.symm) hown (hts _ (pb_tbl_in hml2 rfl)) (hts _ (pb_tbl_in pb_mmax_1 rfl)) (hts _ (pb_tbl_in pb_m_3 rfl)) (hts _ (pb_tbl_in pb_mmax_2 rfl)) (by omega) (by show ((st2.map (pb_vv base cst)).map Value.category).sum + _ ≤ _; omega) (by omega) (by omega) hd (g2 hn0 H locs lsA hP hS hl)
            | _ => exact False.elim hw
        | _ => exact False.elim hw
    by_cases h1004 : a = 1004
    · subst h1004
      cases st with
      | nil => exact False.elim hw
      | cons v_ s_ =>
        cases v_ with
        | int y =>
          cases s_ with
          | nil => exact False.elim hw
          | cons v_ st2 =>
            cases v_ with
            | int x =>
              have hw2 : (st2.map Value.category).sum ≤ 8 ∧ pb_bw CR G FIN mL rz xs r (pc + 3) ls (.int (if y < x then y else x) :: st2) h := hw
              obtain ⟨hcat0, hw3⟩ := hw2
              obtain ⟨g1, g2⟩ := toW (ih _ _ _ _ hok2 hw3)
              refine ofW ⟨g1, fun hn0 H locs lsA hP hS hl => ?_⟩
              have hml2 : Jvm.Cond.methodLink (pb_own ow) idx Lib.Math.min.name ∈ lw_tbl := pb_mk_mem how (by decide) hk
              have hcat : ((st2.map (pb_vv base cst)).map Value.category).sum ≤ 8 := by rw [pb_cat]; exact hcat0
              have hs3l := pb_sl_le g1
              exact va_mmin hx hb (hml.trans hl.1.symm) hown (hts _ (pb_tbl_in hml2 rfl)) (hts _ (pb_tbl_in pb_mmin_1 rfl)) (hts _ (pb_tbl_in pb_m_3 rfl)) (hts _ (pb_tbl_in pb_mmin_2 rfl)) (by omega) (by show ((st2.map (pb_vv base cst)).map Value.category).sum + _ ≤ _; omega) (by omega) (by omega) hd (g2 hn0 H locs lsA hP hS hl)
            | _ => exact False.elim hw
        | _ => exact False.elim hw
    by_cases h1005 : a = 1005
    · subst h1005
      cases st with
      | nil => exact False.elim hw
      | cons v_ st2 =>
        cases v_ with
        | int x =>
          have hw2 : (st2.map Value.category).sum ≤ 8 ∧ pb_bw CR G FIN mL rz xs r (pc + 3) ls (.int (if 0 ≤ x then x else 0 - x) :: st2) h := hw
          obtain ⟨hcat0, hw3⟩ := hw2
          obtain ⟨g1, g2⟩ := toW (ih _ _ _ _ hok2 hw3)
          refine ofW ⟨g1, fun hn0 H locs lsA hP hS hl => ?_⟩
          have hml2 : Jvm.Cond.methodLink (pb_own ow) idx Lib.Math.abs.name ∈ lw_tbl := pb_mk_mem how (by decide) hk
          have hcat : ((st2.map (pb_vv base cst)).map Value.category).sum ≤ 8 := by rw [pb_cat]; exact hcat0
          have hs3l := pb_sl_le g1
          exact va_mabs hx hb (hml.trans hl.1.symm) hown (hts _ (pb_tbl_in hml2 rfl)) (hts _ (pb_tbl_in pb_mabs_1 rfl)) (hts _ (pb_tbl_in pb_m_3 rfl)) (hts _ (pb_tbl_in pb_mabs_2 rfl)) (by omega) (by show ((st2.map (pb_vv base cst)).map Value.category).sum + _ ≤ _; omega) (by omega) (by omega) hd (g2 hn0 H locs lsA hP hS hl)
        | _ => exact False.elim hw
    have hw2 : b ≤ st.length ∧ ((st.drop b).map Value.category).sum ≤ 8 ∧ ((st.take b).map Value.category).sum ≤ pb_mL a ∧ ∃ v h1, CR a h (st.take b).reverse v h1 ∧ pb_bw CR G FIN mL rz xs r (pc + 3) ls (v.toList ++ st.drop b) h1 := pb_sv hw h0 h1003 h1004 h1005
    have hk2 := pb_sk hk h0 h1003 h1004 h1005
    obtain ⟨k1, k2⟩ := (Bool.and_eq_true _ _).mp hk2
    have ha := of_decide_eq_true k1
    obtain ⟨k3, k4⟩ := (Bool.and_eq_true _ _).mp k2
    obtain ⟨k5, k6⟩ := (Bool.and_eq_true _ _).mp k3
    have hkind := Nat.eq_of_beq_eq_true k5
    have hbn := Nat.eq_of_beq_eq_true k6
    obtain ⟨hblen, hcat0, hcw, v, h1, hcr0, hw3⟩ := hw2
    have hmm := hCR _ _ _ _ _ hcr0
    have hmono : h.1 ≤ h1.1 := hmm.1
    have hct := hmm.2 ha (by rw [List.map_reverse, List.sum_reverse]; exact hcw)
    obtain ⟨g1, g2⟩ := toW (ih _ _ _ _ hok2 hw3)
    refine ofW ⟨Nat.le_trans hmono g1, fun hn0 H locs lsA hP hS hl => ?_⟩
    refine pb_size (fun hsize => ?_)
    have hlow := pb_low hP hS hsz hn0
    have hHs : H.size = base + h.1 := by omega
    have hs1l := pb_sl_le hmono
    have hs2l := pb_sl_le hn0
    have hs3l := pb_sl_le g1
    have hcell : (h.1 - n0) + (h1.1 - h.1) ≤ R.cells := by omega
    have hslot : (pb_sl h.1 - pb_sl n0) + (pb_sl h1.1 - pb_sl h.1) ≤ R.slots := by omega
    have hcat : (((st.drop b).map (pb_vv base cst)).map Value.category).sum ≤ 8 := by rw [pb_cat]; exact hcat0
    obtain ⟨w1, w2, w3, w4, w5, w6, w7, w8, w9⟩ := pb_mw_spec ha
    have hpre : ∀ U : State, U.heap = H → s.WarmedH U.vm → pb_PRE base cst dC dI cA xs h U := fun U hU hW => ⟨by rw [hU]; exact hHs, by rw [hU]; exact hP, by rw [hU]; exact hE.go hW hS.2.1⟩
    have hgd : GoodIn pb_tbl (.code (pb_y a) (pb_cc a) (pb_mL a) (pb_rt a) :: pb_tbl) := pb_good (by
        intro w hw
        rcases List.mem_cons.mp hw with rfl | q
        · exact pb_tbl_in w1 rfl
        · exact q)
    have hstk : st.map (pb_vv base cst) = (((st.take b).reverse).map (pb_vv base cst)).reverse ++ (st.drop b).map (pb_vv base cst) := by rw [List.map_reverse, List.reverse_reverse, ← List.map_append, List.take_append_drop]
    rw [hstk]
    have hlen : (((st.take b).reverse).map (pb_vv base cst)).length = b := by
      rw [List.length_map, List.length_reverse, List.length_take]
      omega
    rcases (Bool.or_eq_true _ _).mp k4 with k7 | k7
    · have hml2 := pb_mk_mem how (by omega) k7
      rw [pb_yy_n ha] at hml2
      refine pb_after (va_runS (As := ((st.take b).reverse).map (pb_vv base cst)) (rest := (st.drop b).map (pb_vv base cst)) ⟨hx, hb, hml, hown, hts⟩ hct ⟨callB_of b hts hgd rfl rfl rfl (hts _ (pb_tbl_in w2 rfl)) (hts _ (pb_tbl_in hml2 rfl)) ⟨w4, w5, by rw [w6, hbn]⟩ ⟨hRf, by show 8 + (pb_mL a + 11) + 64 * d ≤ R.locals; omega⟩, hts _ (pb_tbl_in (w7 hkind) rfl)⟩ ⟨pb_blind, fun U hU hW => ⟨rfl, hpre U hU hW⟩⟩ rfl hlen hl.1 rfl (lv_room hcat) hd ⟨hcell, hslot⟩) hS (fun H1 locs1 hP1 hS1 => ?_)
      obtain ⟨z1, z2⟩ := (⟨by omega, by omega⟩ : h1.1 - n0 = h.1 - n0 + (h1.1 - h.1) ∧ pb_sl h1.1 - pb_sl n0 = pb_sl h.1 - pb_sl n0 + (pb_sl h1.1 - pb_sl h.1))
      have g2 := g2 (Nat.le_trans hn0 hmono) H1 locs1 lsA hP1 hS1 hl
      rw [z1, z2] at g2
      rw [List.map_append, pb_ol] at g2
      exact g2
    · obtain ⟨m1, m2⟩ := (Bool.and_eq_true _ _).mp k7
      obtain ⟨m3, m4⟩ := (Bool.and_eq_true _ _).mp m2
      have m1 := Nat.eq_of_beq_eq_true m1
      have m3 := Nat.eq_of_beq_eq_true m3
      have m4 := Nat.eq_of_beq_eq_true m4
      subst m1
      subst m3
      subst m4
      refine pb_after (va_runSN (As := ((st.take b).reverse).map (pb_vv base cst)) (rest := (st.drop b).map (pb_vv base cst)) ⟨hx, hb, hml, hown, hts⟩ hct ⟨va_cnB b hts hgd rfl rfl rfl hNw (hts _ (pb_tbl_in w2 rfl)) ⟨w4, w5, by rw [w6, hbn]⟩ ⟨hRf, by show 8 + (pb_mL 164 + 11) + 64 * d ≤ R.locals; omega⟩, hts _ (pb_tbl_in (w7 hkind) rfl), trivial⟩ ⟨pb_blind, fun U hU hW => ⟨rfl, hpre U hU hW⟩⟩ rfl hlen hl.1 rfl (lv_room hcat) hd ⟨hcell, hslot⟩) hS (fun H1 locs1 hP1 hS1 => ?_)
      obtain ⟨z1, z2⟩ := (⟨by omega, by omega⟩ : h1.1 - n0 = h.1 - n0 + (h1.1 - h.1) ∧ pb_sl h1.1 - pb_sl n0 = pb_sl h.1 - pb_sl n0 + (pb_sl h1.1 - pb_sl h.1))
      have g2 := g2 (Nat.le_trans hn0 hmono) H1 locs1 lsA hP1 hS1 hl
      rw [z1, z2] at g2
      rw [List.map_append, pb_ol] at g2
      exact g2
  all_goals
    first
    | exact False.elim hw
    | (exact pb_dsp hw hs1)

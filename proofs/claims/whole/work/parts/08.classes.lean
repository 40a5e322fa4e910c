def pb_UWs : List (List Nat) := [[208, 210, 212, 214, 216, 218, 220, 222], [449, 451, 453, 455, 457, 459, 461, 463, 465], [410, 412, 414, 416], [482, 484, 486, 488, 490], [253, 255, 257, 259, 261, 263], [366, 368, 370], [326, 328, 330, 332, 334, 336, 338, 340, 342, 344, 346, 348, 350], [279, 281, 283, 285, 287, 289, 291, 293], [388, 390, 392, 394, 396], [427], [503, 505, 507, 509, 511, 513, 515, 517, 519, 521], [1315, 1317, 1319, 1321, 1323, 1325, 1327, 1329, 1331, 1333, 1335, 1337, 1339, 1341, 1343, 1345, 1347, 1349, 1351, 1353, 1355, 1357, 1359, 1361, 1363, 1365, 1367, 1369, 1371, 1373, 1375, 1377, 1379, 1381, 1383, 1385, 1387, 1389, 1391, 1393, 1395, 1397, 1399, 1401, 1403, 1405, 1407, 1409, 1411, 1413, 1415, 1417]]
def pb_UIs : List (Nat × Nat) := [(166, 132), (431, 140), (400, 138), (469, 141), (228, 133), (355, 136), (299, 135), (159, 131), (374, 137), (420, 139), (151, 130), (1258, 142)]
def pb_TY (a : Nat) : Nat → FieldType := match a with | 0 => tyX0 | 1 => tyX1 | 2 => tyX2 | 3 => tyX3 | 4 => tyX4 | 5 => tyX5 | 6 => tyX6 | 7 => tyX7 | 8 => tyX8 | 9 => tyX9 | 10 => tyX10 | _ => tyX11
def pb_tyk : FieldType → Nat
  | .int => 0 | .long => 1 | .boolean => 3 | .object _ => 2 | .array _ => 2 | _ => 9
theorem pb_uw : (List.range 12).all (fun a => (List.range (pb_nF a)).all (fun k => pb_wd ((pb_UWs.getD a []).getD k 0) (u_lay (pb_cn a) (pb_T a) k))) = true := by decide +kernel
theorem pb_ui : (List.range 12).all (fun a => pb_wd (pb_UIs.getD a (0, 0)).1 (.instantiable (pb_cn a) (pb_nF a)) && pb_wd (pb_UIs.getD a (0, 0)).2 (.initialized (pb_cn a))) = true := by decide +kernel
theorem pb_ut : (List.range 12).all (fun a => (List.range (pb_nF a)).all (fun k => decide (parseFieldDescriptor (pb_T a k).2.2.1 = some (pb_TY a k)) && Nat.beq (pb_tyk (pb_TY a k)) (pb_ty a k))) = true := by decide +kernel
theorem pb_un : (List.range 12).all (fun a => (List.range (pb_nF a)).all (fun x => (List.range (pb_nF a)).all (fun y => Nat.beq x y || !decide ((pb_T a x).2.1 = (pb_T a y).2.1)))) = true := by decide +kernel
theorem pb_cl_at {a : Nat} (h : a < 12) : pb_cl[a]? = some (pb_cn a, pb_T a, pb_nF a) := by
  match a, h with
  | 0, _ => rfl
  | 1, _ => rfl
  | 2, _ => rfl
  | 3, _ => rfl
  | 4, _ => rfl
  | 5, _ => rfl
  | 6, _ => rfl
  | 7, _ => rfl
  | 8, _ => rfl
  | 9, _ => rfl
  | 10, _ => rfl
  | 11, _ => rfl
  | k + 12, h => omega
theorem pb_wd_at {w : Nat} {c : Jvm.Cond} (h : pb_wd w c = true) (hg : goodWord c = true) : c ∈ pb_tbl := pb_tbl_in (pb_wd_mem h) hg
theorem pb_lay_good (C : String) (T : u_T) (k : Nat) : goodWord (u_lay C T k) = true := by
  unfold u_lay
  split <;> rfl
theorem pb_uin {a : Nat} (h : a < 12) : ∀ w ∈ u_ws (pb_cn a) (pb_T a) (pb_nF a), w ∈ pb_tbl := by
  intro w hw
  obtain ⟨k, hk, rfl⟩ := List.mem_map.mp hw
  exact pb_wd_at (List.all_eq_true.mp (List.all_eq_true.mp pb_uw a (List.mem_range.mpr h)) k hk) (pb_lay_good _ _ _)
theorem pb_inst {a : Nat} (h : a < 12) : Jvm.Cond.instantiable (pb_cn a) (pb_nF a) ∈ pb_tbl := pb_wd_at ((Bool.and_eq_true _ _).mp (List.all_eq_true.mp pb_ui a (List.mem_range.mpr h))).1 rfl
theorem pb_init {a : Nat} (h : a < 12) : Jvm.Cond.initialized (pb_cn a) ∈ pb_tbl := pb_wd_at ((Bool.and_eq_true _ _).mp (List.all_eq_true.mp pb_ui a (List.mem_range.mpr h))).2 rfl
theorem pb_uty {a : Nat} (h : a < 12) : ∀ k, k < pb_nF a → parseFieldDescriptor (pb_T a k).2.2.1 = some (pb_TY a k) := fun k hk =>
  of_decide_eq_true ((Bool.and_eq_true _ _).mp (List.all_eq_true.mp (List.all_eq_true.mp pb_ut a (List.mem_range.mpr h)) k (List.mem_range.mpr hk))).1
theorem pb_uk {a k : Nat} (h : a < 12) (hk : k < pb_nF a) : pb_tyk (pb_TY a k) = pb_ty a k :=
  Nat.eq_of_beq_eq_true ((Bool.and_eq_true _ _).mp (List.all_eq_true.mp (List.all_eq_true.mp pb_ut a (List.mem_range.mpr h)) k (List.mem_range.mpr hk))).2
theorem pb_unm {a : Nat} (h : a < 12) : ∀ x, x < pb_nF a → ∀ y, y < pb_nF a → x ≠ y → (pb_T a x).2.1 ≠ (pb_T a y).2.1 := by
  intro x hx y hy hne he
  have h1 := List.all_eq_true.mp (List.all_eq_true.mp (List.all_eq_true.mp pb_un a (List.mem_range.mpr h)) x (List.mem_range.mpr hx)) y (List.mem_range.mpr hy)
  rcases (Bool.or_eq_true _ _).mp h1 with q | q
  · exact hne (Nat.eq_of_beq_eq_true q)
  · rw [decide_eq_true he] at q
    cases q
/-- how many places the first n objects have -/
def pb_sz (o : Nat) : Nat := if (pb_SH o).1 < 12 then pb_nF (pb_SH o).1 else (pb_SH o).2
def pb_sl : Nat → Nat
  | 0 => 0
  | n + 1 => pb_sl n + pb_sz n
theorem pb_sl_le {a b : Nat} (h : a ≤ b) : pb_sl a ≤ pb_sl b := by
  induction h with
  | refl => exact Nat.le_refl _
  | step _ ih => exact Nat.le_trans ih (Nat.le_add_right _ _)
theorem pb_ce_o {base : Nat} {cA : Nat → ClassId} {h : pb_HP} {o a : Nat} (e : (pb_SH o).1 = a) (ha : a < 12) : pb_ce base cA h o = .inr (a, (List.range (pb_nF a)).map (pb_fv base h o a)) := by
  unfold pb_ce
  rw [e, if_pos ha]
theorem pb_ce_i {base : Nat} {cA : Nat → ClassId} {h : pb_HP} {o a : Nat} (e : (pb_SH o).1 = a) (h1 : 12 ≤ a) (h2 : a < 15) : pb_ce base cA h o = .inl (cA a, (pb_SH o).2, .inl (pb_I h o)) := by
  unfold pb_ce
  rw [e, if_neg (by omega), if_pos h2]
theorem pb_ce_r {base : Nat} {cA : Nat → ClassId} {h : pb_HP} {o a : Nat} (e : (pb_SH o).1 = a) (h1 : 15 ≤ a) : pb_ce base cA h o = .inl (cA a, (pb_SH o).2, .inr (.inr (.inr (.inr (fun j => (pb_R h o j).map (base + ·)))))) := by
  unfold pb_ce
  rw [e, if_neg (by omega), if_neg (by omega)]
theorem pb_up_s {α : Type} (f : Nat → α) (k : Nat) (v : α) : va_up f k v k = v := by unfold va_up; rw [if_pos rfl]
theorem pb_up_n {α : Type} (f : Nat → α) {k j : Nat} (v : α) (h : j ≠ k) : va_up f k v j = f j := by unfold va_up; rw [if_neg h]
theorem pb_fs_set {N k : Nat} {f : Nat → Value} {v : Value} (hk : k < N) : ((List.range N).map f).set k v = (List.range N).map (fun j => if j = k then v else f j) := by
  refine List.ext_getElem? fun j => ?_
  by_cases hj : j < N
  · rw [List.getElem?_map, List.getElem?_range hj]
    by_cases e : j = k
    · subst e
      rw [List.getElem?_set_self (by simpa using hj)]
      simp
    · rw [List.getElem?_set_ne (Ne.symm e), List.getElem?_map, List.getElem?_range hj]
      simp [e]
  · rw [List.getElem?_eq_none (by simp; omega), List.getElem?_eq_none (by simp; omega)]
theorem pb_fs_at {N k : Nat} {f : Nat → Value} (hk : k < N) : ((List.range N).map f)[k]? = some (f k) := by
  rw [List.getElem?_map, List.getElem?_range hk]
  rfl
/-- an int put into a field -/
theorem pb_ws_pI {base : Nat} {cA : Nat → ClassId} {h : pb_HP} {o a k : Nat} {v : Int32} (ho : o < h.1) (e : (pb_SH o).1 = a) (ha : a < 12) (hk : k < pb_nF a) (ht : pb_ty a k = 0 ∨ pb_ty a k = 3) : (pb_ws base cA h).set o (base + o, .inr (a, ((List.range (pb_nF a)).map (pb_fv base h o a)).set k (.int v))) = pb_ws base cA (pb_pI h o k v) := by
  refine pb_ws_set rfl ho ?_ (fun q hq => ?_)
  · rw [pb_ce_o e ha, pb_fs_set hk]
    congr 2
    refine List.map_congr_left fun j hj => ?_
    unfold pb_fv
    by_cases hjk : j = k
    · subst hjk
      rw [if_pos rfl]
      have e2 : pb_I (pb_pI h o j v) o j = v := by
        unfold pb_I pb_pI
        dsimp only
        rw [pb_up_s]
        exact pk_us
      rcases ht with t | t <;> rw [t] <;> (try dsimp only) <;> rw [e2] <;> rfl
    · rw [if_neg hjk]
      have e2 : pb_I (pb_pI h o k v) o j = pb_I h o j := by
        unfold pb_I pb_pI
        dsimp only
        rw [pb_up_s]
        exact pk_un hjk
      rw [e2]
      rfl
  · unfold pb_ce
    have e2 : pb_I (pb_pI h o k v) q = pb_I h q := by
      unfold pb_I pb_pI
      exact pb_up_n _ _ hq
    have e3 : pb_fv base (pb_pI h o k v) q = pb_fv base h q := by
      funext c j
      unfold pb_fv
      rw [e2]
      rfl
    rw [e2, e3]
    rfl
theorem pb_ws_pJ {base : Nat} {cA : Nat → ClassId} {h : pb_HP} {o a k : Nat} {v : Int64} (ho : o < h.1) (e : (pb_SH o).1 = a) (ha : a < 12) (hk : k < pb_nF a) (ht : pb_ty a k = 1) : (pb_ws base cA h).set o (base + o, .inr (a, ((List.range (pb_nF a)).map (pb_fv base h o a)).set k (.long v))) = pb_ws base cA (pb_pJ h o k v) := by
  refine pb_ws_set rfl ho ?_ (fun q hq => ?_)
  · rw [pb_ce_o e ha, pb_fs_set hk]
    congr 2
    refine List.map_congr_left fun j hj => ?_
    unfold pb_fv
    by_cases hjk : j = k
    · subst hjk
      rw [if_pos rfl]
      have e2 : pb_J (pb_pJ h o j v) o j = v := by
        unfold pb_J pb_pJ
        dsimp only
        rw [pb_up_s]
        exact pk_uLs
      rw [ht]
      try dsimp only
      rw [e2]
      try rfl
    · rw [if_neg hjk]
      have e2 : pb_J (pb_pJ h o k v) o j = pb_J h o j := by
        unfold pb_J pb_pJ
        dsimp only
        rw [pb_up_s]
        exact pk_uLn hjk
      rw [e2]
      rfl
  · unfold pb_ce
    have e2 : pb_J (pb_pJ h o k v) q = pb_J h q := by
      unfold pb_J pb_pJ
      exact pb_up_n _ _ hq
    have e3 : pb_fv base (pb_pJ h o k v) q = pb_fv base h q := by
      funext c j
      unfold pb_fv
      rw [e2]
      rfl
    rw [e3]
    rfl
theorem pb_ws_pR {base : Nat} {cA : Nat → ClassId} {h : pb_HP} {o a k : Nat} {v : Nat} (ho : o < h.1) (e : (pb_SH o).1 = a) (ha : a < 12) (hk : k < pb_nF a) (ht : pb_ty a k = 2) : (pb_ws base cA h).set o (base + o, .inr (a, ((List.range (pb_nF a)).map (pb_fv base h o a)).set k (.ref (base + v)))) = pb_ws base cA (pb_pR h o k (some v)) := by
  refine pb_ws_set rfl ho ?_ (fun q hq => ?_)
  · rw [pb_ce_o e ha, pb_fs_set hk]
    congr 2
    refine List.map_congr_left fun j hj => ?_
    unfold pb_fv
    by_cases hjk : j = k
    · subst hjk
      rw [if_pos rfl]
      have e2 : pb_R (pb_pR h o j (some v)) o j = some v := by
        unfold pb_R pb_pR
        dsimp only
        rw [pb_up_s, pb_up_s]
      rw [ht]
      try dsimp only
      rw [e2]
      rfl
    · rw [if_neg hjk]
      have e2 : pb_R (pb_pR h o k (some v)) o j = pb_R h o j := by
        unfold pb_R pb_pR
        dsimp only
        rw [pb_up_s, pb_up_n _ _ hjk]
      rw [e2]
      rfl
  · unfold pb_ce
    have e2 : pb_R (pb_pR h o k (some v)) q = pb_R h q := by
      unfold pb_R pb_pR
      exact pb_up_n _ _ hq
    have e3 : pb_fv base (pb_pR h o k (some v)) q = pb_fv base h q := by
      funext c j
      unfold pb_fv
      rw [e2]
      rfl
    rw [e2, e3]
    rfl
/-- a row's contents replaced -/
theorem pb_ws_pW {base : Nat} {cA : Nat → ClassId} {h : pb_HP} {o a : Nat} {f : Nat → Int32} (ho : o < h.1) (e : (pb_SH o).1 = a) (h1 : 12 ≤ a) (h2 : a < 15) : (pb_ws base cA h).set o (base + o, .inl (cA a, (pb_SH o).2, .inl f)) = pb_ws base cA (pb_pW h o f) := by
  refine pb_ws_set rfl ho ?_ (fun q hq => ?_)
  · rw [pb_ce_i e h1 h2]
    have e2 : pb_I (pb_pW h o f) o = f := by
      unfold pb_I pb_pW
      exact pb_up_s _ _ _
    rw [e2]
  · unfold pb_ce
    have e2 : pb_I (pb_pW h o f) q = pb_I h q := by
      unfold pb_I pb_pW
      exact pb_up_n _ _ hq
    have e3 : pb_fv base (pb_pW h o f) q = pb_fv base h q := by
      funext c j
      unfold pb_fv
      rw [e2]
      rfl
    rw [e2, e3]
    rfl
theorem pb_ws_aR {base : Nat} {cA : Nat → ClassId} {h : pb_HP} {o a k v : Nat} (ho : o < h.1) (e : (pb_SH o).1 = a) (h1 : 15 ≤ a) : (pb_ws base cA h).set o (base + o, .inl (cA a, (pb_SH o).2, .inr (.inr (.inr (.inr (va_up (fun j => (pb_R h o j).map (base + ·)) k (some (base + v)))))))) = pb_ws base cA (pb_pR h o k (some v)) := by
  refine pb_ws_set rfl ho ?_ (fun q hq => ?_)
  · rw [pb_ce_r e h1]
    congr 7
    funext j
    have e2 : pb_R (pb_pR h o k (some v)) o j = va_up (pb_R h o) k (some v) j := by
      unfold pb_R pb_pR
      dsimp only
      rw [pb_up_s]
    rw [e2]
    unfold va_up
    by_cases hj : j = k
    · rw [if_pos hj, if_pos hj]
      rfl
    · rw [if_neg hj, if_neg hj]
  · unfold pb_ce
    have e2 : pb_R (pb_pR h o k (some v)) q = pb_R h q := by
      unfold pb_R pb_pR
      exact pb_up_n _ _ hq
    have e3 : pb_fv base (pb_pR h o k (some v)) q = pb_fv base h q := by
      funext c j
      unfold pb_fv
      rw [e2]
      rfl
    rw [e2, e3]
    rfl
theorem pb_ce_nw {base : Nat} {cA : Nat → ClassId} {h : pb_HP} {q : Nat} (hq : q < h.1) : pb_ce base cA (pb_nw h) q = pb_ce base cA h q := by
  have hne : q ≠ h.1 := by omega
  have e1 : pb_I (pb_nw h) q = pb_I h q := by
    unfold pb_I pb_nw
    exact pb_up_n _ _ hne
  have e2 : pb_J (pb_nw h) q = pb_J h q := by
    unfold pb_J pb_nw
    exact pb_up_n _ _ hne
  have e3 : pb_R (pb_nw h) q = pb_R h q := by
    unfold pb_R pb_nw
    exact pb_up_n _ _ hne
  have e4 : pb_fv base (pb_nw h) q = pb_fv base h q := by
    funext c j
    unfold pb_fv
    rw [e1, e2, e3]
  unfold pb_ce
  rw [e1, e3, e4]
theorem pb_nw_I (h : pb_HP) : pb_I (pb_nw h) h.1 = fun _ => 0 := by
  unfold pb_I pb_nw
  exact pb_up_s _ _ _
theorem pb_nw_J (h : pb_HP) : pb_J (pb_nw h) h.1 = fun _ => 0 := by
  unfold pb_J pb_nw
  exact pb_up_s _ _ _
theorem pb_nw_R (h : pb_HP) : pb_R (pb_nw h) h.1 = fun _ => none := by
  unfold pb_R pb_nw
  exact pb_up_s _ _ _

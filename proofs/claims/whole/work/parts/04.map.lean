/-! Numbers into addresses: what the machine holds where the abstract one has h. -/
def pb_vv (base : Nat) (cst : Nat → Nat) : Value → Value
  | .ref a => .ref (base + a)
  | .retAddr k => .ref (cst k)
  | v => v
def pb_vp (base : Nat) (cst : Nat → Nat) (q : Nat × Value) : Nat × Value := (q.1, pb_vv base cst q.2)
theorem pb_vv_cat (base : Nat) (cst : Nat → Nat) (v : Value) : (pb_vv base cst v).category = v.category := by cases v <;> rfl
theorem pb_lk_mem {ls : pb_LS} {i : Nat} {v : Value} (h : pb_lk ls i = some v) : (i, v) ∈ ls := by
  induction ls with
  | nil => cases h
  | cons q r ih =>
    unfold pb_lk at h
    cases hb : Nat.beq q.1 i with
    | true =>
      rw [hb] at h
      have e := Nat.eq_of_beq_eq_true hb
      cases h
      subst e
      exact List.mem_cons_self
    | false =>
      rw [hb] at h
      exact List.mem_cons_of_mem _ (ih h)
theorem pb_lk_at {base : Nat} {cst : Nat → Nat} {ls : pb_LS} {i mL : Nat} {v : Value} {lsA : Array Slot} (h : pb_lk ls i = some v) (hl : lv_has lsA mL (ls.map (pb_vp base cst))) : lsA[i]? = some (.val (pb_vv base cst v)) :=
  hl.2.2 (i, pb_vv base cst v) (List.mem_map.mpr ⟨(i, v), pb_lk_mem h, rfl⟩)
theorem pb_flt_mem {f : Nat × Value → Bool} {ls : pb_LS} {q : Nat × Value} (h : q ∈ pb_flt f ls) : q ∈ ls ∧ f q = true := by
  induction ls with
  | nil => cases h
  | cons x r ih =>
    unfold pb_flt at h
    cases hb : f x with
    | true =>
      rw [hb] at h
      rcases List.mem_cons.mp h with rfl | h
      · exact ⟨List.mem_cons_self, hb⟩
      · exact ⟨List.mem_cons_of_mem _ (ih h).1, (ih h).2⟩
    | false =>
      rw [hb] at h
      exact ⟨List.mem_cons_of_mem _ (ih h).1, (ih h).2⟩
theorem pb_st1_mem {i : Nat} {v : Value} {ls : pb_LS} {q : Nat × Value} (h : q ∈ pb_st1 i v ls) : q = (i, v) ∨ (q ∈ ls ∧ pb_ok1 i q = true) := by
  induction ls with
  | nil => exact Or.inl (List.mem_singleton.mp h)
  | cons x r ih =>
    unfold pb_st1 at h
    cases hb : Nat.beq x.1 i with
    | true =>
      rw [hb] at h
      rcases List.mem_cons.mp h with rfl | h
      · exact Or.inl rfl
      · exact Or.inr ⟨List.mem_cons_of_mem _ (pb_flt_mem h).1, (pb_flt_mem h).2⟩
    | false =>
      rw [hb] at h
      cases hc : pb_ok1 i x with
      | true =>
        rw [hc] at h
        rcases List.mem_cons.mp h with rfl | h
        · exact Or.inr ⟨List.mem_cons_self, hc⟩
        · rcases ih h with e | e
          · exact Or.inl e
          · exact Or.inr ⟨List.mem_cons_of_mem _ e.1, e.2⟩
      | false =>
        rw [hc] at h
        rcases ih h with e | e
        · exact Or.inl e
        · exact Or.inr ⟨List.mem_cons_of_mem _ e.1, e.2⟩
theorem pb_st2_mem {i : Nat} {v : Value} {ls : pb_LS} {q : Nat × Value} (h : q ∈ pb_st2 i v ls) : q = (i, v) ∨ (q ∈ ls ∧ pb_ok2 i q = true) := by
  induction ls with
  | nil => exact Or.inl (List.mem_singleton.mp h)
  | cons x r ih =>
    unfold pb_st2 at h
    cases hb : Nat.beq x.1 i with
    | true =>
      rw [hb] at h
      rcases List.mem_cons.mp h with rfl | h
      · exact Or.inl rfl
      · exact Or.inr ⟨List.mem_cons_of_mem _ (pb_flt_mem h).1, (pb_flt_mem h).2⟩
    | false =>
      rw [hb] at h
      cases hc : pb_ok2 i x with
      | true =>
        rw [hc] at h
        rcases List.mem_cons.mp h with rfl | h
        · exact Or.inr ⟨List.mem_cons_self, hc⟩
        · rcases ih h with e | e
          · exact Or.inl e
          · exact Or.inr ⟨List.mem_cons_of_mem _ e.1, e.2⟩
      | false =>
        rw [hc] at h
        rcases ih h with e | e
        · exact Or.inl e
        · exact Or.inr ⟨List.mem_cons_of_mem _ e.1, e.2⟩
theorem pb_beq (a b : Nat) : (a == b) = Nat.beq a b := by
  rw [Bool.eq_iff_iff, beq_iff_eq, Nat.beq_eq]
theorem pb_sub1 {base : Nat} {cst : Nat → Nat} {ls : pb_LS} {i mL : Nat} {v : Value} {lsA : Array Slot} (h : lv_has lsA mL ((i, pb_vv base cst v) :: (ls.map (pb_vp base cst)).filter (fun q => !(q.1 == i) && !(q.1 + 1 == i && q.2.category == 2)))) : lv_has lsA mL ((pb_st1 i v ls).map (pb_vp base cst)) := by
  refine ⟨h.1, h.2.1, fun q hq => h.2.2 q ?_⟩
  obtain ⟨x, hx, rfl⟩ := List.mem_map.mp hq
  rcases pb_st1_mem hx with rfl | ⟨h1, h2⟩
  · exact List.mem_cons_self
  · refine List.mem_cons_of_mem _ (List.mem_filter.mpr ⟨List.mem_map.mpr ⟨x, h1, rfl⟩, ?_⟩)
    show (!(x.1 == i) && !(x.1 + 1 == i && (pb_vv base cst x.2).category == 2)) = true
    rw [pb_vv_cat]
    simp only [pb_beq]
    exact h2
theorem pb_sub2 {base : Nat} {cst : Nat → Nat} {ls : pb_LS} {i mL : Nat} {v : Value} {lsA : Array Slot} (h : lv_has lsA mL ((i, pb_vv base cst v) :: (ls.map (pb_vp base cst)).filter (fun q => !(q.1 == i) && (!(q.1 == i + 1) && !(q.1 + 1 == i && q.2.category == 2))))) : lv_has lsA mL ((pb_st2 i v ls).map (pb_vp base cst)) := by
  refine ⟨h.1, h.2.1, fun q hq => h.2.2 q ?_⟩
  obtain ⟨x, hx, rfl⟩ := List.mem_map.mp hq
  rcases pb_st2_mem hx with rfl | ⟨h1, h2⟩
  · exact List.mem_cons_self
  · refine List.mem_cons_of_mem _ (List.mem_filter.mpr ⟨List.mem_map.mpr ⟨x, h1, rfl⟩, ?_⟩)
    show (!(x.1 == i) && (!(x.1 == i + 1) && !(x.1 + 1 == i && (pb_vv base cst x.2).category == 2))) = true
    rw [pb_vv_cat]
    simp only [pb_beq]
    exact h2
theorem pb_pick {base : Nat} {cst : Nat → Nat} {ls ls' : pb_LS} {ks : List Nat} {mL : Nat} {lsA : Array Slot} (e : lv_pick ls ks = ls') (h : lv_has lsA mL (ls.map (pb_vp base cst))) : lv_has lsA mL (ls'.map (pb_vp base cst)) := by
  refine ⟨h.1, h.2.1, fun q hq => h.2.2 q ?_⟩
  obtain ⟨x, hx, rfl⟩ := List.mem_map.mp hq
  rw [← e] at hx
  obtain ⟨k, -, hk⟩ := List.mem_filterMap.mp hx
  exact List.mem_map.mpr ⟨x, List.mem_of_getElem? hk, rfl⟩
theorem pb_args (base : Nat) (cst : Nat → Nat) : ∀ (as : List Value) (i : Nat), lv_args i (as.map (pb_vv base cst)) = (lv_args i as).map (pb_vp base cst)
  | [], _ => rfl
  | v :: vs, i => by
    show (i, pb_vv base cst v) :: lv_args (if (pb_vv base cst v).category = 2 then i + 2 else i + 1) (vs.map (pb_vv base cst)) = (i, pb_vv base cst v) :: (lv_args (if v.category = 2 then i + 2 else i + 1) vs).map (pb_vp base cst)
    rw [pb_vv_cat, pb_args base cst vs]
/-- what a cell holds -/
def pb_fv (base : Nat) (h : pb_HP) (o c j : Nat) : Value := match pb_ty c j with
  | 1 => .long (pb_J h o j)
  | 2 => va_rf ((pb_R h o j).map (base + ·))
  | _ => .int (pb_I h o j)
def pb_nF (c : Nat) : Nat := (pb_FTY.getD c []).length
def pb_ce (base : Nat) (cA : Nat → ClassId) (h : pb_HP) (o : Nat) : va_E :=
  if (pb_SH o).1 < 12 then .inr ((pb_SH o).1, (List.range (pb_nF (pb_SH o).1)).map (pb_fv base h o (pb_SH o).1))
  else if (pb_SH o).1 < 15 then .inl (cA (pb_SH o).1, (pb_SH o).2, .inl (pb_I h o))
  else .inl (cA (pb_SH o).1, (pb_SH o).2, .inr (.inr (.inr (.inr (fun j => (pb_R h o j).map (base + ·))))))
def pb_ws (base : Nat) (cA : Nat → ClassId) (h : pb_HP) : va_W := (List.range h.1).map (fun o => (base + o, pb_ce base cA h o))
def pb_tys (cA : Nat → ClassId) : List (ClassId × FieldType) := [(cA 12, .int), (cA 13, .byte), (cA 14, .boolean), (cA 15, .object "PointedBench$County"), (cA 16, .object "PointedBench$Lines"), (cA 17, .object "PointedBench$Told")]
theorem pb_ws_at {base : Nat} {cA : Nat → ClassId} {h : pb_HP} {o : Nat} (ho : o < h.1) : (pb_ws base cA h)[o]? = some (base + o, pb_ce base cA h o) := by
  unfold pb_ws
  rw [List.getElem?_map, List.getElem?_range ho]
  rfl
theorem pb_ws_inv {base : Nat} {cA : Nat → ClassId} {h : pb_HP} {k : Nat} {q : Nat × va_E} (hk : (pb_ws base cA h)[k]? = some q) : k < h.1 ∧ q = (base + k, pb_ce base cA h k) := by
  have hl : k < (pb_ws base cA h).length := (List.getElem?_eq_some_iff.mp hk).1
  have hl2 : k < h.1 := by unfold pb_ws at hl; simpa using hl
  exact ⟨hl2, (Option.some.inj ((pb_ws_at hl2).symm.trans hk)).symm⟩
theorem pb_ws_D (base : Nat) (cA : Nat → ClassId) (h : pb_HP) : va_D (fun q => base ≤ q) (pb_ws base cA h) := by
  refine ⟨fun i j x y hi hj e => ?_, fun k q hk => ?_⟩
  · obtain ⟨-, rfl⟩ := pb_ws_inv hi
    obtain ⟨-, rfl⟩ := pb_ws_inv hj
    have e : base + i = base + j := e
    omega
  · obtain ⟨-, rfl⟩ := pb_ws_inv hk
    exact Nat.le_add_right base k
theorem pb_ws_set {base : Nat} {cA : Nat → ClassId} {h h1 : pb_HP} {o : Nat} {e : va_E} (hn : h1.1 = h.1) (ho : o < h.1) (he : pb_ce base cA h1 o = e) (hr : ∀ k, k ≠ o → pb_ce base cA h1 k = pb_ce base cA h k) : (pb_ws base cA h).set o (base + o, e) = pb_ws base cA h1 := by
  refine List.ext_getElem? fun k => ?_
  have hlen : ((pb_ws base cA h).set o (base + o, e)).length = h.1 := by unfold pb_ws; simp
  by_cases hk : k < h.1
  · rw [pb_ws_at (h := h1) (by rw [hn]; exact hk)]
    by_cases hko : k = o
    · subst hko
      rw [List.getElem?_set_self (by unfold pb_ws; simpa using hk), he]
    · rw [List.getElem?_set_ne (Ne.symm hko), pb_ws_at hk, hr k hko]
  · rw [List.getElem?_eq_none (by rw [hlen]; omega), List.getElem?_eq_none (by unfold pb_ws; simp [hn]; omega)]
theorem pb_ws_nw {base : Nat} {cA : Nat → ClassId} {h : pb_HP} (hr : ∀ k, k < h.1 → pb_ce base cA (pb_nw h) k = pb_ce base cA h k) : pb_ws base cA h ++ [(base + h.1, pb_ce base cA (pb_nw h) h.1)] = pb_ws base cA (pb_nw h) := by
  have e1 : pb_ws base cA (pb_nw h) = (List.range h.1).map (fun o => (base + o, pb_ce base cA (pb_nw h) o)) ++ [(base + h.1, pb_ce base cA (pb_nw h) h.1)] := by
    show (List.range (h.1 + 1)).map _ = _
    rw [List.range_succ, List.map_append]
    rfl
  rw [e1]
  congr 1
  unfold pb_ws
  refine List.map_congr_left fun k hk => ?_
  rw [hr k (List.mem_range.mp hk)]

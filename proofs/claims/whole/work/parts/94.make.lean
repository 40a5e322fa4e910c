/-! the makers: what lies in the heap when both objects are made -/
def mk_l : List (Nat × Nat × Nat) → Nat → Nat → Option Nat
  | [], _, _ => none
  | q :: L, o, k => if o = q.1 ∧ k = q.2.1 then some q.2.2 else mk_l L o k
def mk_i : List (Nat × Nat × Int32) → Nat → Nat → Int32
  | [], _, _ => 0
  | q :: L, o, k => if o = q.1 ∧ k = q.2.1 then q.2.2 else mk_i L o k
theorem mk_l_n {L : List (Nat × Nat × Nat)} {n o k : Nat} (h : ∀ q, q ∈ L → q.1 < n) (ho : n ≤ o) : mk_l L o k = none := by
  induction L with
  | nil => rfl
  | cons q L ih =>
    have := h q (List.mem_cons_self ..)
    unfold mk_l
    rw [if_neg (by omega)]
    exact ih (fun p hp => h p (List.mem_cons_of_mem _ hp))
theorem mk_l_k {L : List (Nat × Nat × Nat)} {n o k : Nat} (h : ∀ q, q ∈ L → q.2.1 < n) (hk : n ≤ k) : mk_l L o k = none := by
  induction L with
  | nil => rfl
  | cons q L ih =>
    have := h q (List.mem_cons_self ..)
    unfold mk_l
    rw [if_neg (by omega)]
    exact ih (fun p hp => h p (List.mem_cons_of_mem _ hp))
theorem mk_i_0 {L : List (Nat × Nat × Int32)} {o k : Nat} (h : ∀ q, q ∈ L → ¬ (o = q.1 ∧ k = q.2.1)) : mk_i L o k = 0 := by
  induction L with
  | nil => rfl
  | cons q L ih =>
    unfold mk_i
    rw [if_neg (h q (List.mem_cons_self ..))]
    exact ih (fun p hp => h p (List.mem_cons_of_mem _ hp))
def mk_G (h : pb_HP) (n : Nat) (L : List (Nat × Nat × Nat)) (I : List (Nat × Nat × Int32)) : Prop := h.1 = n ∧ (∀ o k, pb_R h o k = mk_l L o k) ∧ (∀ o k, pb_I h o k = mk_i I o k) ∧ (∀ q, q ∈ L → q.1 < n) ∧ ∀ q, q ∈ I → q.1 < n
theorem mk_nw1 (h : pb_HP) : (pb_nw h).1 = h.1 + 1 := rfl
theorem mk_pR1 (h : pb_HP) (o k : Nat) (v : Option Nat) : (pb_pR h o k v).1 = h.1 := rfl
theorem mk_pI1 (h : pb_HP) (o k : Nat) (v : Int32) : (pb_pI h o k v).1 = h.1 := rfl
section
variable {h : pb_HP} {n : Nat} {L : List (Nat × Nat × Nat)} {I : List (Nat × Nat × Int32)}
theorem mk_Gn (G : mk_G h n L I) : mk_G (pb_nw h) (n + 1) L I := by
  obtain ⟨e, r, i, l, m⟩ := G
  refine ⟨by rw [mk_nw1, e], fun o k => ?_, fun o k => ?_, fun q hq => Nat.lt_succ_of_lt (l q hq), fun q hq => Nat.lt_succ_of_lt (m q hq)⟩
  · show va_up h.2.2.2 h.1 (fun _ => none) o k = _
    unfold va_up
    by_cases c : o = h.1
    · simp only [c, if_true]
      exact (mk_l_n l (by omega)).symm
    · simp only [c, if_false]
      exact r o k
  · show va_up h.2.1 h.1 (fun _ => 0) o k = _
    unfold va_up
    by_cases c : o = h.1
    · simp only [c, if_true]
      exact (mk_i_0 (fun q hq z => by have := m q hq; omega)).symm
    · simp only [c, if_false]
      exact i o k
theorem mk_GR (G : mk_G h n L I) {o : Nat} (ho : o < n) (k v : Nat) : mk_G (pb_pR h o k (some v)) n ((o, k, v) :: L) I := by
  obtain ⟨e, r, i, l, m⟩ := G
  refine ⟨e, fun p j => ?_, i, fun q hq => ?_, m⟩
  · show va_up h.2.2.2 o (va_up (h.2.2.2 o) k (some v)) p j = if p = o ∧ j = k then some v else mk_l L p j
    unfold va_up
    by_cases c : p = o
    · by_cases d : j = k
      · simp [c, d]
      · simp only [c, d, if_true, if_false, and_false]
        exact r o j
    · simp only [c, if_false, false_and]
      exact r p j
  · rcases List.mem_cons.mp hq with z | z
    · rw [z]; exact ho
    · exact l q z
theorem mk_GI (G : mk_G h n L I) {o : Nat} (ho : o < n) (k : Nat) (v : Int32) : mk_G (pb_pI h o k v) n L ((o, k, v) :: I) := by
  obtain ⟨e, r, i, l, m⟩ := G
  refine ⟨e, r, fun p j => ?_, l, fun q hq => ?_⟩
  · rw [ma_Ik]
    show _ = if p = o ∧ j = k then v else mk_i I p j
    by_cases c : p = o
    · by_cases d : j = k
      · simp only [c, d, if_true, and_self]
      · simp only [c, d, if_true, if_false, and_false]
        exact i o j
    · simp only [c, if_false, false_and]
      exact i p j
  · rcases List.mem_cons.mp hq with z | z
    · rw [z]; exact ho
    · exact m q z
end
theorem mk_z2 : (2 : Int32).toNatClampNeg = 2 := by decide
theorem mk_z3 : (3 : Int32).toNatClampNeg = 3 := by decide
theorem mk_z4 : (4 : Int32).toNatClampNeg = 4 := by decide
theorem mk_z6 : (6 : Int32).toNatClampNeg = 6 := by decide
theorem mk_z12 : (12 : Int32).toNatClampNeg = 12 := by decide
theorem mk_z36 : (36 : Int32).toNatClampNeg = 36 := by decide
theorem mk_z161 : (161 : Int32).toNatClampNeg = 161 := by decide
theorem mk_z200 : (200 : Int32).toNatClampNeg = 200 := by decide
theorem mk_z544 : (544 : Int32).toNatClampNeg = 544 := by decide
theorem mk_z600 : (600 : Int32).toNatClampNeg = 600 := by decide
theorem mk_z729 : (729 : Int32).toNatClampNeg = 729 := by decide
theorem mk_z1288 : (1288 : Int32).toNatClampNeg = 1288 := by decide
theorem mk_z2400 : (2400 : Int32).toNatClampNeg = 2400 := by decide
theorem mk_z2401 : (2401 : Int32).toNatClampNeg = 2401 := by decide
theorem mk_y0 : ((0 : Int32) ≤ 0) = True := by decide
theorem mk_y1 : ((0 : Int32) ≤ 1) = True := by decide
theorem mk_y2 : ((0 : Int32) ≤ 2) = True := by decide
theorem mk_w40 : (if (0 : Int32) < 40 then (40 : Int32) else 0) = 40 := by decide
theorem mk_w8 : (if (0 : Int32) < 8 then (8 : Int32) else 0) = 8 := by decide
theorem mk_v40 : ((0 : Int32) ≤ 40) = True := by decide
theorem mk_v8 : ((0 : Int32) ≤ 8) = True := by decide
theorem mk_z40 : (40 : Int32).toNatClampNeg = 40 := by decide
theorem mk_z8 : (8 : Int32).toNatClampNeg = 8 := by decide
theorem mk_0_3 {h : pb_HP} {L : List (Nat × Nat × Nat)} {I : List (Nat × Nat × Int32)} (G : mk_G h 4 L I) : ∃ g, f_0 h 3 = some g ∧ mk_G g 10 ((3, 7, 9) :: (3, 6, 8) :: (3, 5, 7) :: (3, 4, 6) :: (3, 3, 5) :: (3, 2, 4) :: L) (I) := by
  unfold f_0
  simp only [mk_nw1, mk_pR1, mk_pI1, pb_hb, G.1, Nat.reduceAdd, Nat.reduceLT, Nat.reduceEqDiff, pb_is, pb_ar, mk_z3, mk_z4, mk_z6, mk_z12, mk_z36, mk_z161, mk_z200, mk_z544, mk_z600, mk_z729, mk_z1288, mk_z2400, mk_z2401, tx_z0, tx_z1, tx_z2, mk_y0, mk_y1, mk_y2, sh_3, sh_4, sh_5, sh_6, sh_7, sh_8, sh_9, and_self, true_and, and_true, if_true, eq_self]
  exact ⟨_, rfl, (mk_GR (mk_Gn (mk_GR (mk_Gn (mk_GR (mk_Gn (mk_GR (mk_Gn (mk_GR (mk_Gn (mk_GR (mk_Gn G) (o := 3) (by decide) 2 4)) (o := 3) (by decide) 3 5)) (o := 3) (by decide) 4 6)) (o := 3) (by decide) 5 7)) (o := 3) (by decide) 6 8)) (o := 3) (by decide) 7 9)⟩
theorem mk_0_10 {h : pb_HP} {L : List (Nat × Nat × Nat)} {I : List (Nat × Nat × Int32)} (G : mk_G h 11 L I) : ∃ g, f_0 h 10 = some g ∧ mk_G g 17 ((10, 7, 16) :: (10, 6, 15) :: (10, 5, 14) :: (10, 4, 13) :: (10, 3, 12) :: (10, 2, 11) :: L) (I) := by
  unfold f_0
  simp only [mk_nw1, mk_pR1, mk_pI1, pb_hb, G.1, Nat.reduceAdd, Nat.reduceLT, Nat.reduceEqDiff, pb_is, pb_ar, mk_z3, mk_z4, mk_z6, mk_z12, mk_z36, mk_z161, mk_z200, mk_z544, mk_z600, mk_z729, mk_z1288, mk_z2400, mk_z2401, tx_z0, tx_z1, tx_z2, mk_y0, mk_y1, mk_y2, sh_10, sh_11, sh_12, sh_13, sh_14, sh_15, sh_16, and_self, true_and, and_true, if_true, eq_self]
  exact ⟨_, rfl, (mk_GR (mk_Gn (mk_GR (mk_Gn (mk_GR (mk_Gn (mk_GR (mk_Gn (mk_GR (mk_Gn (mk_GR (mk_Gn G) (o := 10) (by decide) 2 11)) (o := 10) (by decide) 3 12)) (o := 10) (by decide) 4 13)) (o := 10) (by decide) 5 14)) (o := 10) (by decide) 6 15)) (o := 10) (by decide) 7 16)⟩
theorem mk_70_18 {h : pb_HP} {L : List (Nat × Nat × Nat)} {I : List (Nat × Nat × Int32)} (G : mk_G h 19 L I) : ∃ g, f_70 h 18 (40) (3) = some g ∧ mk_G g 23 ((18, 4, 22) :: (18, 3, 21) :: (18, 2, 20) :: (18, 1, 19) :: L) ((18, 5, (3)) :: I) := by
  unfold f_70
  simp only [mk_nw1, mk_pR1, mk_pI1, pb_hb, G.1, Nat.reduceAdd, Nat.reduceLT, Nat.reduceEqDiff, pb_is, pb_ar, mk_z3, mk_z4, mk_z6, mk_z12, mk_z36, mk_z161, mk_z200, mk_z544, mk_z600, mk_z729, mk_z1288, mk_z2400, mk_z2401, tx_z0, tx_z1, tx_z2, mk_y0, mk_y1, mk_y2, mk_w40, mk_w8, mk_v40, mk_v8, mk_z40, mk_z8, sh_18, sh_19, sh_20, sh_21, sh_22, and_self, true_and, and_true, if_true, eq_self]
  exact ⟨_, rfl, (mk_GI (mk_GR (mk_Gn (mk_GR (mk_Gn (mk_GR (mk_Gn (mk_GR (mk_Gn G) (o := 18) (by decide) 1 19)) (o := 18) (by decide) 2 20)) (o := 18) (by decide) 3 21)) (o := 18) (by decide) 4 22) (o := 18) (by decide) 5 (3))⟩
theorem mk_70_23 {h : pb_HP} {L : List (Nat × Nat × Nat)} {I : List (Nat × Nat × Int32)} (G : mk_G h 24 L I) : ∃ g, f_70 h 23 (40) (3) = some g ∧ mk_G g 28 ((23, 4, 27) :: (23, 3, 26) :: (23, 2, 25) :: (23, 1, 24) :: L) ((23, 5, (3)) :: I) := by
  unfold f_70
  simp only [mk_nw1, mk_pR1, mk_pI1, pb_hb, G.1, Nat.reduceAdd, Nat.reduceLT, Nat.reduceEqDiff, pb_is, pb_ar, mk_z3, mk_z4, mk_z6, mk_z12, mk_z36, mk_z161, mk_z200, mk_z544, mk_z600, mk_z729, mk_z1288, mk_z2400, mk_z2401, tx_z0, tx_z1, tx_z2, mk_y0, mk_y1, mk_y2, mk_w40, mk_w8, mk_v40, mk_v8, mk_z40, mk_z8, sh_23, sh_24, sh_25, sh_26, sh_27, and_self, true_and, and_true, if_true, eq_self]
  exact ⟨_, rfl, (mk_GI (mk_GR (mk_Gn (mk_GR (mk_Gn (mk_GR (mk_Gn (mk_GR (mk_Gn G) (o := 23) (by decide) 1 24)) (o := 23) (by decide) 2 25)) (o := 23) (by decide) 3 26)) (o := 23) (by decide) 4 27) (o := 23) (by decide) 5 (3))⟩
theorem mk_70_29 {h : pb_HP} {L : List (Nat × Nat × Nat)} {I : List (Nat × Nat × Int32)} (G : mk_G h 30 L I) : ∃ g, f_70 h 29 (8) (2) = some g ∧ mk_G g 34 ((29, 4, 33) :: (29, 3, 32) :: (29, 2, 31) :: (29, 1, 30) :: L) ((29, 5, (2)) :: I) := by
  unfold f_70
  simp only [mk_nw1, mk_pR1, mk_pI1, pb_hb, G.1, Nat.reduceAdd, Nat.reduceLT, Nat.reduceEqDiff, pb_is, pb_ar, mk_z3, mk_z4, mk_z6, mk_z12, mk_z36, mk_z161, mk_z200, mk_z544, mk_z600, mk_z729, mk_z1288, mk_z2400, mk_z2401, tx_z0, tx_z1, tx_z2, mk_y0, mk_y1, mk_y2, mk_w40, mk_w8, mk_v40, mk_v8, mk_z40, mk_z8, sh_29, sh_30, sh_31, sh_32, sh_33, and_self, true_and, and_true, if_true, eq_self]
  exact ⟨_, rfl, (mk_GI (mk_GR (mk_Gn (mk_GR (mk_Gn (mk_GR (mk_Gn (mk_GR (mk_Gn G) (o := 29) (by decide) 1 30)) (o := 29) (by decide) 2 31)) (o := 29) (by decide) 3 32)) (o := 29) (by decide) 4 33) (o := 29) (by decide) 5 (2))⟩
theorem mk_70_34 {h : pb_HP} {L : List (Nat × Nat × Nat)} {I : List (Nat × Nat × Int32)} (G : mk_G h 35 L I) : ∃ g, f_70 h 34 (8) (2) = some g ∧ mk_G g 39 ((34, 4, 38) :: (34, 3, 37) :: (34, 2, 36) :: (34, 1, 35) :: L) ((34, 5, (2)) :: I) := by
  unfold f_70
  simp only [mk_nw1, mk_pR1, mk_pI1, pb_hb, G.1, Nat.reduceAdd, Nat.reduceLT, Nat.reduceEqDiff, pb_is, pb_ar, mk_z3, mk_z4, mk_z6, mk_z12, mk_z36, mk_z161, mk_z200, mk_z544, mk_z600, mk_z729, mk_z1288, mk_z2400, mk_z2401, tx_z0, tx_z1, tx_z2, mk_y0, mk_y1, mk_y2, mk_w40, mk_w8, mk_v40, mk_v8, mk_z40, mk_z8, sh_34, sh_35, sh_36, sh_37, sh_38, and_self, true_and, and_true, if_true, eq_self]
  exact ⟨_, rfl, (mk_GI (mk_GR (mk_Gn (mk_GR (mk_Gn (mk_GR (mk_Gn (mk_GR (mk_Gn G) (o := 34) (by decide) 1 35)) (o := 34) (by decide) 2 36)) (o := 34) (by decide) 3 37)) (o := 34) (by decide) 4 38) (o := 34) (by decide) 5 (2))⟩
theorem mk_99_1 {h : pb_HP} {L : List (Nat × Nat × Nat)} {I : List (Nat × Nat × Int32)} (G : mk_G h 2 L I) : ∃ g, f_99 h 1 = some g ∧ mk_G g 41 ((1, 4, 40) :: (1, 3, 39) :: (1, 2, 28) :: (28, 1, 34) :: (34, 4, 38) :: (34, 3, 37) :: (34, 2, 36) :: (34, 1, 35) :: (28, 0, 29) :: (29, 4, 33) :: (29, 3, 32) :: (29, 2, 31) :: (29, 1, 30) :: (1, 1, 17) :: (17, 1, 23) :: (23, 4, 27) :: (23, 3, 26) :: (23, 2, 25) :: (23, 1, 24) :: (17, 0, 18) :: (18, 4, 22) :: (18, 3, 21) :: (18, 2, 20) :: (18, 1, 19) :: (1, 0, 2) :: (2, 1, 10) :: (10, 7, 16) :: (10, 6, 15) :: (10, 5, 14) :: (10, 4, 13) :: (10, 3, 12) :: (10, 2, 11) :: (2, 0, 3) :: (3, 7, 9) :: (3, 6, 8) :: (3, 5, 7) :: (3, 4, 6) :: (3, 3, 5) :: (3, 2, 4) :: L) ((1, 7, (-1)) :: (34, 5, (2)) :: (29, 5, (2)) :: (23, 5, (3)) :: (18, 5, (3)) :: I) := by
  unfold f_99
  simp only [mk_nw1, mk_pR1, mk_pI1, pb_hb, G.1, Nat.reduceAdd, Nat.reduceLT, Nat.reduceEqDiff, pb_is, pb_ar, mk_z3, mk_z4, mk_z6, mk_z12, mk_z36, mk_z161, mk_z200, mk_z544, mk_z600, mk_z729, mk_z1288, mk_z2400, mk_z2401, tx_z0, tx_z1, tx_z2, mk_y0, mk_y1, mk_y2, sh_1, sh_2, sh_3, and_self, true_and, and_true, if_true, eq_self]
  obtain ⟨h4, a_h4, G_h4⟩ := mk_0_3 (mk_Gn (mk_Gn G))
  rw [a_h4, Option.bind_some]
  simp only [mk_nw1, mk_pR1, mk_pI1, pb_hb, G.1, G_h4.1, Nat.reduceAdd, Nat.reduceLT, Nat.reduceEqDiff, pb_is, pb_ar, mk_z3, mk_z4, mk_z6, mk_z12, mk_z36, mk_z161, mk_z200, mk_z544, mk_z600, mk_z729, mk_z1288, mk_z2400, mk_z2401, tx_z0, tx_z1, tx_z2, mk_y0, mk_y1, mk_y2, sh_1, sh_2, sh_3, sh_10, and_self, true_and, and_true, if_true, eq_self]
  obtain ⟨h9, a_h9, G_h9⟩ := mk_0_10 (mk_Gn (mk_GR G_h4 (o := 2) (by decide) 0 3))
  rw [a_h9, Option.bind_some]
  simp only [mk_nw1, mk_pR1, mk_pI1, pb_hb, G.1, G_h4.1, G_h9.1, Nat.reduceAdd, Nat.reduceLT, Nat.reduceEqDiff, pb_is, pb_ar, mk_z3, mk_z4, mk_z6, mk_z12, mk_z36, mk_z161, mk_z200, mk_z544, mk_z600, mk_z729, mk_z1288, mk_z2400, mk_z2401, tx_z0, tx_z1, tx_z2, mk_y0, mk_y1, mk_y2, sh_1, sh_2, sh_3, sh_10, sh_17, sh_18, and_self, true_and, and_true, if_true, eq_self]
  obtain ⟨h16, a_h16, G_h16⟩ := mk_70_18 (mk_Gn (mk_Gn (mk_GR (mk_GR G_h9 (o := 2) (by decide) 1 10) (o := 1) (by decide) 0 2)))
  rw [a_h16, Option.bind_some]
  simp only [mk_nw1, mk_pR1, mk_pI1, pb_hb, G.1, G_h4.1, G_h9.1, G_h16.1, Nat.reduceAdd, Nat.reduceLT, Nat.reduceEqDiff, pb_is, pb_ar, mk_z3, mk_z4, mk_z6, mk_z12, mk_z36, mk_z161, mk_z200, mk_z544, mk_z600, mk_z729, mk_z1288, mk_z2400, mk_z2401, tx_z0, tx_z1, tx_z2, mk_y0, mk_y1, mk_y2, sh_1, sh_2, sh_3, sh_10, sh_17, sh_18, sh_23, and_self, true_and, and_true, if_true, eq_self]
  obtain ⟨h22, a_h22, G_h22⟩ := mk_70_23 (mk_Gn (mk_GR G_h16 (o := 17) (by decide) 0 18))
  rw [a_h22, Option.bind_some]
  simp only [mk_nw1, mk_pR1, mk_pI1, pb_hb, G.1, G_h4.1, G_h9.1, G_h16.1, G_h22.1, Nat.reduceAdd, Nat.reduceLT, Nat.reduceEqDiff, pb_is, pb_ar, mk_z3, mk_z4, mk_z6, mk_z12, mk_z36, mk_z161, mk_z200, mk_z544, mk_z600, mk_z729, mk_z1288, mk_z2400, mk_z2401, tx_z0, tx_z1, tx_z2, mk_y0, mk_y1, mk_y2, sh_1, sh_2, sh_3, sh_10, sh_17, sh_18, sh_23, sh_28, sh_29, and_self, true_and, and_true, if_true, eq_self]
  obtain ⟨h31, a_h31, G_h31⟩ := mk_70_29 (mk_Gn (mk_Gn (mk_GR (mk_GR G_h22 (o := 17) (by decide) 1 23) (o := 1) (by decide) 1 17)))
  rw [a_h31, Option.bind_some]
  simp only [mk_nw1, mk_pR1, mk_pI1, pb_hb, G.1, G_h4.1, G_h9.1, G_h16.1, G_h22.1, G_h31.1, Nat.reduceAdd, Nat.reduceLT, Nat.reduceEqDiff, pb_is, pb_ar, mk_z3, mk_z4, mk_z6, mk_z12, mk_z36, mk_z161, mk_z200, mk_z544, mk_z600, mk_z729, mk_z1288, mk_z2400, mk_z2401, tx_z0, tx_z1, tx_z2, mk_y0, mk_y1, mk_y2, sh_1, sh_2, sh_3, sh_10, sh_17, sh_18, sh_23, sh_28, sh_29, sh_34, and_self, true_and, and_true, if_true, eq_self]
  obtain ⟨h36, a_h36, G_h36⟩ := mk_70_34 (mk_Gn (mk_GR G_h31 (o := 28) (by decide) 0 29))
  rw [a_h36, Option.bind_some]
  simp only [mk_nw1, mk_pR1, mk_pI1, pb_hb, G.1, G_h4.1, G_h9.1, G_h16.1, G_h22.1, G_h31.1, G_h36.1, Nat.reduceAdd, Nat.reduceLT, Nat.reduceEqDiff, pb_is, pb_ar, mk_z3, mk_z4, mk_z6, mk_z12, mk_z36, mk_z161, mk_z200, mk_z544, mk_z600, mk_z729, mk_z1288, mk_z2400, mk_z2401, tx_z0, tx_z1, tx_z2, mk_y0, mk_y1, mk_y2, sh_1, sh_2, sh_3, sh_10, sh_17, sh_18, sh_23, sh_28, sh_29, sh_34, sh_39, sh_40, and_self, true_and, and_true, if_true, eq_self]
  exact ⟨_, rfl, (mk_GI (mk_GR (mk_Gn (mk_GR (mk_Gn (mk_GR (mk_GR G_h36 (o := 28) (by decide) 1 34) (o := 1) (by decide) 2 28)) (o := 1) (by decide) 3 39)) (o := 1) (by decide) 4 40) (o := 1) (by decide) 7 (-1))⟩
theorem mk_0_44 {h : pb_HP} {L : List (Nat × Nat × Nat)} {I : List (Nat × Nat × Int32)} (G : mk_G h 45 L I) : ∃ g, f_0 h 44 = some g ∧ mk_G g 51 ((44, 7, 50) :: (44, 6, 49) :: (44, 5, 48) :: (44, 4, 47) :: (44, 3, 46) :: (44, 2, 45) :: L) (I) := by
  unfold f_0
  simp only [mk_nw1, mk_pR1, mk_pI1, pb_hb, G.1, Nat.reduceAdd, Nat.reduceLT, Nat.reduceEqDiff, pb_is, pb_ar, mk_z3, mk_z4, mk_z6, mk_z12, mk_z36, mk_z161, mk_z200, mk_z544, mk_z600, mk_z729, mk_z1288, mk_z2400, mk_z2401, tx_z0, tx_z1, tx_z2, mk_y0, mk_y1, mk_y2, sh_44, sh_45, sh_46, sh_47, sh_48, sh_49, sh_50, and_self, true_and, and_true, if_true, eq_self]
  exact ⟨_, rfl, (mk_GR (mk_Gn (mk_GR (mk_Gn (mk_GR (mk_Gn (mk_GR (mk_Gn (mk_GR (mk_Gn (mk_GR (mk_Gn G) (o := 44) (by decide) 2 45)) (o := 44) (by decide) 3 46)) (o := 44) (by decide) 4 47)) (o := 44) (by decide) 5 48)) (o := 44) (by decide) 6 49)) (o := 44) (by decide) 7 50)⟩
theorem mk_0_51 {h : pb_HP} {L : List (Nat × Nat × Nat)} {I : List (Nat × Nat × Int32)} (G : mk_G h 52 L I) : ∃ g, f_0 h 51 = some g ∧ mk_G g 58 ((51, 7, 57) :: (51, 6, 56) :: (51, 5, 55) :: (51, 4, 54) :: (51, 3, 53) :: (51, 2, 52) :: L) (I) := by
  unfold f_0
  simp only [mk_nw1, mk_pR1, mk_pI1, pb_hb, G.1, Nat.reduceAdd, Nat.reduceLT, Nat.reduceEqDiff, pb_is, pb_ar, mk_z3, mk_z4, mk_z6, mk_z12, mk_z36, mk_z161, mk_z200, mk_z544, mk_z600, mk_z729, mk_z1288, mk_z2400, mk_z2401, tx_z0, tx_z1, tx_z2, mk_y0, mk_y1, mk_y2, sh_51, sh_52, sh_53, sh_54, sh_55, sh_56, sh_57, and_self, true_and, and_true, if_true, eq_self]
  exact ⟨_, rfl, (mk_GR (mk_Gn (mk_GR (mk_Gn (mk_GR (mk_Gn (mk_GR (mk_Gn (mk_GR (mk_Gn (mk_GR (mk_Gn G) (o := 51) (by decide) 2 52)) (o := 51) (by decide) 3 53)) (o := 51) (by decide) 4 54)) (o := 51) (by decide) 5 55)) (o := 51) (by decide) 6 56)) (o := 51) (by decide) 7 57)⟩
theorem mk_70_59 {h : pb_HP} {L : List (Nat × Nat × Nat)} {I : List (Nat × Nat × Int32)} (G : mk_G h 60 L I) : ∃ g, f_70 h 59 (40) (3) = some g ∧ mk_G g 64 ((59, 4, 63) :: (59, 3, 62) :: (59, 2, 61) :: (59, 1, 60) :: L) ((59, 5, (3)) :: I) := by
  unfold f_70
  simp only [mk_nw1, mk_pR1, mk_pI1, pb_hb, G.1, Nat.reduceAdd, Nat.reduceLT, Nat.reduceEqDiff, pb_is, pb_ar, mk_z3, mk_z4, mk_z6, mk_z12, mk_z36, mk_z161, mk_z200, mk_z544, mk_z600, mk_z729, mk_z1288, mk_z2400, mk_z2401, tx_z0, tx_z1, tx_z2, mk_y0, mk_y1, mk_y2, mk_w40, mk_w8, mk_v40, mk_v8, mk_z40, mk_z8, sh_59, sh_60, sh_61, sh_62, sh_63, and_self, true_and, and_true, if_true, eq_self]
  exact ⟨_, rfl, (mk_GI (mk_GR (mk_Gn (mk_GR (mk_Gn (mk_GR (mk_Gn (mk_GR (mk_Gn G) (o := 59) (by decide) 1 60)) (o := 59) (by decide) 2 61)) (o := 59) (by decide) 3 62)) (o := 59) (by decide) 4 63) (o := 59) (by decide) 5 (3))⟩
theorem mk_70_64 {h : pb_HP} {L : List (Nat × Nat × Nat)} {I : List (Nat × Nat × Int32)} (G : mk_G h 65 L I) : ∃ g, f_70 h 64 (40) (3) = some g ∧ mk_G g 69 ((64, 4, 68) :: (64, 3, 67) :: (64, 2, 66) :: (64, 1, 65) :: L) ((64, 5, (3)) :: I) := by
  unfold f_70
  simp only [mk_nw1, mk_pR1, mk_pI1, pb_hb, G.1, Nat.reduceAdd, Nat.reduceLT, Nat.reduceEqDiff, pb_is, pb_ar, mk_z3, mk_z4, mk_z6, mk_z12, mk_z36, mk_z161, mk_z200, mk_z544, mk_z600, mk_z729, mk_z1288, mk_z2400, mk_z2401, tx_z0, tx_z1, tx_z2, mk_y0, mk_y1, mk_y2, mk_w40, mk_w8, mk_v40, mk_v8, mk_z40, mk_z8, sh_64, sh_65, sh_66, sh_67, sh_68, and_self, true_and, and_true, if_true, eq_self]
  exact ⟨_, rfl, (mk_GI (mk_GR (mk_Gn (mk_GR (mk_Gn (mk_GR (mk_Gn (mk_GR (mk_Gn G) (o := 64) (by decide) 1 65)) (o := 64) (by decide) 2 66)) (o := 64) (by decide) 3 67)) (o := 64) (by decide) 4 68) (o := 64) (by decide) 5 (3))⟩
theorem mk_70_70 {h : pb_HP} {L : List (Nat × Nat × Nat)} {I : List (Nat × Nat × Int32)} (G : mk_G h 71 L I) : ∃ g, f_70 h 70 (8) (2) = some g ∧ mk_G g 75 ((70, 4, 74) :: (70, 3, 73) :: (70, 2, 72) :: (70, 1, 71) :: L) ((70, 5, (2)) :: I) := by
  unfold f_70
  simp only [mk_nw1, mk_pR1, mk_pI1, pb_hb, G.1, Nat.reduceAdd, Nat.reduceLT, Nat.reduceEqDiff, pb_is, pb_ar, mk_z3, mk_z4, mk_z6, mk_z12, mk_z36, mk_z161, mk_z200, mk_z544, mk_z600, mk_z729, mk_z1288, mk_z2400, mk_z2401, tx_z0, tx_z1, tx_z2, mk_y0, mk_y1, mk_y2, mk_w40, mk_w8, mk_v40, mk_v8, mk_z40, mk_z8, sh_70, sh_71, sh_72, sh_73, sh_74, and_self, true_and, and_true, if_true, eq_self]
  exact ⟨_, rfl, (mk_GI (mk_GR (mk_Gn (mk_GR (mk_Gn (mk_GR (mk_Gn (mk_GR (mk_Gn G) (o := 70) (by decide) 1 71)) (o := 70) (by decide) 2 72)) (o := 70) (by decide) 3 73)) (o := 70) (by decide) 4 74) (o := 70) (by decide) 5 (2))⟩
theorem mk_70_75 {h : pb_HP} {L : List (Nat × Nat × Nat)} {I : List (Nat × Nat × Int32)} (G : mk_G h 76 L I) : ∃ g, f_70 h 75 (8) (2) = some g ∧ mk_G g 80 ((75, 4, 79) :: (75, 3, 78) :: (75, 2, 77) :: (75, 1, 76) :: L) ((75, 5, (2)) :: I) := by
  unfold f_70
  simp only [mk_nw1, mk_pR1, mk_pI1, pb_hb, G.1, Nat.reduceAdd, Nat.reduceLT, Nat.reduceEqDiff, pb_is, pb_ar, mk_z3, mk_z4, mk_z6, mk_z12, mk_z36, mk_z161, mk_z200, mk_z544, mk_z600, mk_z729, mk_z1288, mk_z2400, mk_z2401, tx_z0, tx_z1, tx_z2, mk_y0, mk_y1, mk_y2, mk_w40, mk_w8, mk_v40, mk_v8, mk_z40, mk_z8, sh_75, sh_76, sh_77, sh_78, sh_79, and_self, true_and, and_true, if_true, eq_self]
  exact ⟨_, rfl, (mk_GI (mk_GR (mk_Gn (mk_GR (mk_Gn (mk_GR (mk_Gn (mk_GR (mk_Gn G) (o := 75) (by decide) 1 76)) (o := 75) (by decide) 2 77)) (o := 75) (by decide) 3 78)) (o := 75) (by decide) 4 79) (o := 75) (by decide) 5 (2))⟩
theorem mk_99_42 {h : pb_HP} {L : List (Nat × Nat × Nat)} {I : List (Nat × Nat × Int32)} (G : mk_G h 43 L I) : ∃ g, f_99 h 42 = some g ∧ mk_G g 82 ((42, 4, 81) :: (42, 3, 80) :: (42, 2, 69) :: (69, 1, 75) :: (75, 4, 79) :: (75, 3, 78) :: (75, 2, 77) :: (75, 1, 76) :: (69, 0, 70) :: (70, 4, 74) :: (70, 3, 73) :: (70, 2, 72) :: (70, 1, 71) :: (42, 1, 58) :: (58, 1, 64) :: (64, 4, 68) :: (64, 3, 67) :: (64, 2, 66) :: (64, 1, 65) :: (58, 0, 59) :: (59, 4, 63) :: (59, 3, 62) :: (59, 2, 61) :: (59, 1, 60) :: (42, 0, 43) :: (43, 1, 51) :: (51, 7, 57) :: (51, 6, 56) :: (51, 5, 55) :: (51, 4, 54) :: (51, 3, 53) :: (51, 2, 52) :: (43, 0, 44) :: (44, 7, 50) :: (44, 6, 49) :: (44, 5, 48) :: (44, 4, 47) :: (44, 3, 46) :: (44, 2, 45) :: L) ((42, 7, (-1)) :: (75, 5, (2)) :: (70, 5, (2)) :: (64, 5, (3)) :: (59, 5, (3)) :: I) := by
  unfold f_99
  simp only [mk_nw1, mk_pR1, mk_pI1, pb_hb, G.1, Nat.reduceAdd, Nat.reduceLT, Nat.reduceEqDiff, pb_is, pb_ar, mk_z3, mk_z4, mk_z6, mk_z12, mk_z36, mk_z161, mk_z200, mk_z544, mk_z600, mk_z729, mk_z1288, mk_z2400, mk_z2401, tx_z0, tx_z1, tx_z2, mk_y0, mk_y1, mk_y2, sh_42, sh_43, sh_44, and_self, true_and, and_true, if_true, eq_self]
  obtain ⟨h4, a_h4, G_h4⟩ := mk_0_44 (mk_Gn (mk_Gn G))
  rw [a_h4, Option.bind_some]
  simp only [mk_nw1, mk_pR1, mk_pI1, pb_hb, G.1, G_h4.1, Nat.reduceAdd, Nat.reduceLT, Nat.reduceEqDiff, pb_is, pb_ar, mk_z3, mk_z4, mk_z6, mk_z12, mk_z36, mk_z161, mk_z200, mk_z544, mk_z600, mk_z729, mk_z1288, mk_z2400, mk_z2401, tx_z0, tx_z1, tx_z2, mk_y0, mk_y1, mk_y2, sh_42, sh_43, sh_44, sh_51, and_self, true_and, and_true, if_true, eq_self]
  obtain ⟨h9, a_h9, G_h9⟩ := mk_0_51 (mk_Gn (mk_GR G_h4 (o := 43) (by decide) 0 44))
  rw [a_h9, Option.bind_some]
  simp only [mk_nw1, mk_pR1, mk_pI1, pb_hb, G.1, G_h4.1, G_h9.1, Nat.reduceAdd, Nat.reduceLT, Nat.reduceEqDiff, pb_is, pb_ar, mk_z3, mk_z4, mk_z6, mk_z12, mk_z36, mk_z161, mk_z200, mk_z544, mk_z600, mk_z729, mk_z1288, mk_z2400, mk_z2401, tx_z0, tx_z1, tx_z2, mk_y0, mk_y1, mk_y2, sh_42, sh_43, sh_44, sh_51, sh_58, sh_59, and_self, true_and, and_true, if_true, eq_self]
  obtain ⟨h16, a_h16, G_h16⟩ := mk_70_59 (mk_Gn (mk_Gn (mk_GR (mk_GR G_h9 (o := 43) (by decide) 1 51) (o := 42) (by decide) 0 43)))
  rw [a_h16, Option.bind_some]
  simp only [mk_nw1, mk_pR1, mk_pI1, pb_hb, G.1, G_h4.1, G_h9.1, G_h16.1, Nat.reduceAdd, Nat.reduceLT, Nat.reduceEqDiff, pb_is, pb_ar, mk_z3, mk_z4, mk_z6, mk_z12, mk_z36, mk_z161, mk_z200, mk_z544, mk_z600, mk_z729, mk_z1288, mk_z2400, mk_z2401, tx_z0, tx_z1, tx_z2, mk_y0, mk_y1, mk_y2, sh_42, sh_43, sh_44, sh_51, sh_58, sh_59, sh_64, and_self, true_and, and_true, if_true, eq_self]
  obtain ⟨h22, a_h22, G_h22⟩ := mk_70_64 (mk_Gn (mk_GR G_h16 (o := 58) (by decide) 0 59))
  rw [a_h22, Option.bind_some]
  simp only [mk_nw1, mk_pR1, mk_pI1, pb_hb, G.1, G_h4.1, G_h9.1, G_h16.1, G_h22.1, Nat.reduceAdd, Nat.reduceLT, Nat.reduceEqDiff, pb_is, pb_ar, mk_z3, mk_z4, mk_z6, mk_z12, mk_z36, mk_z161, mk_z200, mk_z544, mk_z600, mk_z729, mk_z1288, mk_z2400, mk_z2401, tx_z0, tx_z1, tx_z2, mk_y0, mk_y1, mk_y2, sh_42, sh_43, sh_44, sh_51, sh_58, sh_59, sh_64, sh_69, sh_70, and_self, true_and, and_true, if_true, eq_self]
  obtain ⟨h31, a_h31, G_h31⟩ := mk_70_70 (mk_Gn (mk_Gn (mk_GR (mk_GR G_h22 (o := 58) (by decide) 1 64) (o := 42) (by decide) 1 58)))
  rw [a_h31, Option.bind_some]
  simp only [mk_nw1, mk_pR1, mk_pI1, pb_hb, G.1, G_h4.1, G_h9.1, G_h16.1, G_h22.1, G_h31.1, Nat.reduceAdd, Nat.reduceLT, Nat.reduceEqDiff, pb_is, pb_ar, mk_z3, mk_z4, mk_z6, mk_z12, mk_z36, mk_z161, mk_z200, mk_z544, mk_z600, mk_z729, mk_z1288, mk_z2400, mk_z2401, tx_z0, tx_z1, tx_z2, mk_y0, mk_y1, mk_y2, sh_42, sh_43, sh_44, sh_51, sh_58, sh_59, sh_64, sh_69, sh_70, sh_75, and_self, true_and, and_true, if_true, eq_self]
  obtain ⟨h36, a_h36, G_h36⟩ := mk_70_75 (mk_Gn (mk_GR G_h31 (o := 69) (by decide) 0 70))
  rw [a_h36, Option.bind_some]
  simp only [mk_nw1, mk_pR1, mk_pI1, pb_hb, G.1, G_h4.1, G_h9.1, G_h16.1, G_h22.1, G_h31.1, G_h36.1, Nat.reduceAdd, Nat.reduceLT, Nat.reduceEqDiff, pb_is, pb_ar, mk_z3, mk_z4, mk_z6, mk_z12, mk_z36, mk_z161, mk_z200, mk_z544, mk_z600, mk_z729, mk_z1288, mk_z2400, mk_z2401, tx_z0, tx_z1, tx_z2, mk_y0, mk_y1, mk_y2, sh_42, sh_43, sh_44, sh_51, sh_58, sh_59, sh_64, sh_69, sh_70, sh_75, sh_80, sh_81, and_self, true_and, and_true, if_true, eq_self]
  exact ⟨_, rfl, (mk_GI (mk_GR (mk_Gn (mk_GR (mk_Gn (mk_GR (mk_GR G_h36 (o := 69) (by decide) 1 75) (o := 42) (by decide) 2 69)) (o := 42) (by decide) 3 80)) (o := 42) (by decide) 4 81) (o := 42) (by decide) 7 (-1))⟩
theorem mk_0_84 {h : pb_HP} {L : List (Nat × Nat × Nat)} {I : List (Nat × Nat × Int32)} (G : mk_G h 85 L I) : ∃ g, f_0 h 84 = some g ∧ mk_G g 91 ((84, 7, 90) :: (84, 6, 89) :: (84, 5, 88) :: (84, 4, 87) :: (84, 3, 86) :: (84, 2, 85) :: L) (I) := by
  unfold f_0
  simp only [mk_nw1, mk_pR1, mk_pI1, pb_hb, G.1, Nat.reduceAdd, Nat.reduceLT, Nat.reduceEqDiff, pb_is, pb_ar, mk_z3, mk_z4, mk_z6, mk_z12, mk_z36, mk_z161, mk_z200, mk_z544, mk_z600, mk_z729, mk_z1288, mk_z2400, mk_z2401, tx_z0, tx_z1, tx_z2, mk_y0, mk_y1, mk_y2, sh_84, sh_85, sh_86, sh_87, sh_88, sh_89, sh_90, and_self, true_and, and_true, if_true, eq_self]
  exact ⟨_, rfl, (mk_GR (mk_Gn (mk_GR (mk_Gn (mk_GR (mk_Gn (mk_GR (mk_Gn (mk_GR (mk_Gn (mk_GR (mk_Gn G) (o := 84) (by decide) 2 85)) (o := 84) (by decide) 3 86)) (o := 84) (by decide) 4 87)) (o := 84) (by decide) 5 88)) (o := 84) (by decide) 6 89)) (o := 84) (by decide) 7 90)⟩
theorem mk_0_91 {h : pb_HP} {L : List (Nat × Nat × Nat)} {I : List (Nat × Nat × Int32)} (G : mk_G h 92 L I) : ∃ g, f_0 h 91 = some g ∧ mk_G g 98 ((91, 7, 97) :: (91, 6, 96) :: (91, 5, 95) :: (91, 4, 94) :: (91, 3, 93) :: (91, 2, 92) :: L) (I) := by
  unfold f_0
  simp only [mk_nw1, mk_pR1, mk_pI1, pb_hb, G.1, Nat.reduceAdd, Nat.reduceLT, Nat.reduceEqDiff, pb_is, pb_ar, mk_z3, mk_z4, mk_z6, mk_z12, mk_z36, mk_z161, mk_z200, mk_z544, mk_z600, mk_z729, mk_z1288, mk_z2400, mk_z2401, tx_z0, tx_z1, tx_z2, mk_y0, mk_y1, mk_y2, sh_91, sh_92, sh_93, sh_94, sh_95, sh_96, sh_97, and_self, true_and, and_true, if_true, eq_self]
  exact ⟨_, rfl, (mk_GR (mk_Gn (mk_GR (mk_Gn (mk_GR (mk_Gn (mk_GR (mk_Gn (mk_GR (mk_Gn (mk_GR (mk_Gn G) (o := 91) (by decide) 2 92)) (o := 91) (by decide) 3 93)) (o := 91) (by decide) 4 94)) (o := 91) (by decide) 5 95)) (o := 91) (by decide) 6 96)) (o := 91) (by decide) 7 97)⟩
theorem mk_70_99 {h : pb_HP} {L : List (Nat × Nat × Nat)} {I : List (Nat × Nat × Int32)} (G : mk_G h 100 L I) : ∃ g, f_70 h 99 (40) (3) = some g ∧ mk_G g 104 ((99, 4, 103) :: (99, 3, 102) :: (99, 2, 101) :: (99, 1, 100) :: L) ((99, 5, (3)) :: I) := by
  unfold f_70
  simp only [mk_nw1, mk_pR1, mk_pI1, pb_hb, G.1, Nat.reduceAdd, Nat.reduceLT, Nat.reduceEqDiff, pb_is, pb_ar, mk_z3, mk_z4, mk_z6, mk_z12, mk_z36, mk_z161, mk_z200, mk_z544, mk_z600, mk_z729, mk_z1288, mk_z2400, mk_z2401, tx_z0, tx_z1, tx_z2, mk_y0, mk_y1, mk_y2, mk_w40, mk_w8, mk_v40, mk_v8, mk_z40, mk_z8, sh_99, sh_100, sh_101, sh_102, sh_103, and_self, true_and, and_true, if_true, eq_self]
  exact ⟨_, rfl, (mk_GI (mk_GR (mk_Gn (mk_GR (mk_Gn (mk_GR (mk_Gn (mk_GR (mk_Gn G) (o := 99) (by decide) 1 100)) (o := 99) (by decide) 2 101)) (o := 99) (by decide) 3 102)) (o := 99) (by decide) 4 103) (o := 99) (by decide) 5 (3))⟩
theorem mk_70_104 {h : pb_HP} {L : List (Nat × Nat × Nat)} {I : List (Nat × Nat × Int32)} (G : mk_G h 105 L I) : ∃ g, f_70 h 104 (40) (3) = some g ∧ mk_G g 109 ((104, 4, 108) :: (104, 3, 107) :: (104, 2, 106) :: (104, 1, 105) :: L) ((104, 5, (3)) :: I) := by
  unfold f_70
  simp only [mk_nw1, mk_pR1, mk_pI1, pb_hb, G.1, Nat.reduceAdd, Nat.reduceLT, Nat.reduceEqDiff, pb_is, pb_ar, mk_z3, mk_z4, mk_z6, mk_z12, mk_z36, mk_z161, mk_z200, mk_z544, mk_z600, mk_z729, mk_z1288, mk_z2400, mk_z2401, tx_z0, tx_z1, tx_z2, mk_y0, mk_y1, mk_y2, mk_w40, mk_w8, mk_v40, mk_v8, mk_z40, mk_z8, sh_104, sh_105, sh_106, sh_107, sh_108, and_self, true_and, and_true, if_true, eq_self]
  exact ⟨_, rfl, (mk_GI (mk_GR (mk_Gn (mk_GR (mk_Gn (mk_GR (mk_Gn (mk_GR (mk_Gn G) (o := 104) (by decide) 1 105)) (o := 104) (by decide) 2 106)) (o := 104) (by decide) 3 107)) (o := 104) (by decide) 4 108) (o := 104) (by decide) 5 (3))⟩
theorem mk_70_110 {h : pb_HP} {L : List (Nat × Nat × Nat)} {I : List (Nat × Nat × Int32)} (G : mk_G h 111 L I) : ∃ g, f_70 h 110 (8) (2) = some g ∧ mk_G g 115 ((110, 4, 114) :: (110, 3, 113) :: (110, 2, 112) :: (110, 1, 111) :: L) ((110, 5, (2)) :: I) := by
  unfold f_70
  simp only [mk_nw1, mk_pR1, mk_pI1, pb_hb, G.1, Nat.reduceAdd, Nat.reduceLT, Nat.reduceEqDiff, pb_is, pb_ar, mk_z3, mk_z4, mk_z6, mk_z12, mk_z36, mk_z161, mk_z200, mk_z544, mk_z600, mk_z729, mk_z1288, mk_z2400, mk_z2401, tx_z0, tx_z1, tx_z2, mk_y0, mk_y1, mk_y2, mk_w40, mk_w8, mk_v40, mk_v8, mk_z40, mk_z8, sh_110, sh_111, sh_112, sh_113, sh_114, and_self, true_and, and_true, if_true, eq_self]
  exact ⟨_, rfl, (mk_GI (mk_GR (mk_Gn (mk_GR (mk_Gn (mk_GR (mk_Gn (mk_GR (mk_Gn G) (o := 110) (by decide) 1 111)) (o := 110) (by decide) 2 112)) (o := 110) (by decide) 3 113)) (o := 110) (by decide) 4 114) (o := 110) (by decide) 5 (2))⟩
theorem mk_70_115 {h : pb_HP} {L : List (Nat × Nat × Nat)} {I : List (Nat × Nat × Int32)} (G : mk_G h 116 L I) : ∃ g, f_70 h 115 (8) (2) = some g ∧ mk_G g 120 ((115, 4, 119) :: (115, 3, 118) :: (115, 2, 117) :: (115, 1, 116) :: L) ((115, 5, (2)) :: I) := by
  unfold f_70
  simp only [mk_nw1, mk_pR1, mk_pI1, pb_hb, G.1, Nat.reduceAdd, Nat.reduceLT, Nat.reduceEqDiff, pb_is, pb_ar, mk_z3, mk_z4, mk_z6, mk_z12, mk_z36, mk_z161, mk_z200, mk_z544, mk_z600, mk_z729, mk_z1288, mk_z2400, mk_z2401, tx_z0, tx_z1, tx_z2, mk_y0, mk_y1, mk_y2, mk_w40, mk_w8, mk_v40, mk_v8, mk_z40, mk_z8, sh_115, sh_116, sh_117, sh_118, sh_119, and_self, true_and, and_true, if_true, eq_self]
  exact ⟨_, rfl, (mk_GI (mk_GR (mk_Gn (mk_GR (mk_Gn (mk_GR (mk_Gn (mk_GR (mk_Gn G) (o := 115) (by decide) 1 116)) (o := 115) (by decide) 2 117)) (o := 115) (by decide) 3 118)) (o := 115) (by decide) 4 119) (o := 115) (by decide) 5 (2))⟩
theorem mk_99_82 {h : pb_HP} {L : List (Nat × Nat × Nat)} {I : List (Nat × Nat × Int32)} (G : mk_G h 83 L I) : ∃ g, f_99 h 82 = some g ∧ mk_G g 122 ((82, 4, 121) :: (82, 3, 120) :: (82, 2, 109) :: (109, 1, 115) :: (115, 4, 119) :: (115, 3, 118) :: (115, 2, 117) :: (115, 1, 116) :: (109, 0, 110) :: (110, 4, 114) :: (110, 3, 113) :: (110, 2, 112) :: (110, 1, 111) :: (82, 1, 98) :: (98, 1, 104) :: (104, 4, 108) :: (104, 3, 107) :: (104, 2, 106) :: (104, 1, 105) :: (98, 0, 99) :: (99, 4, 103) :: (99, 3, 102) :: (99, 2, 101) :: (99, 1, 100) :: (82, 0, 83) :: (83, 1, 91) :: (91, 7, 97) :: (91, 6, 96) :: (91, 5, 95) :: (91, 4, 94) :: (91, 3, 93) :: (91, 2, 92) :: (83, 0, 84) :: (84, 7, 90) :: (84, 6, 89) :: (84, 5, 88) :: (84, 4, 87) :: (84, 3, 86) :: (84, 2, 85) :: L) ((82, 7, (-1)) :: (115, 5, (2)) :: (110, 5, (2)) :: (104, 5, (3)) :: (99, 5, (3)) :: I) := by
  unfold f_99
  simp only [mk_nw1, mk_pR1, mk_pI1, pb_hb, G.1, Nat.reduceAdd, Nat.reduceLT, Nat.reduceEqDiff, pb_is, pb_ar, mk_z3, mk_z4, mk_z6, mk_z12, mk_z36, mk_z161, mk_z200, mk_z544, mk_z600, mk_z729, mk_z1288, mk_z2400, mk_z2401, tx_z0, tx_z1, tx_z2, mk_y0, mk_y1, mk_y2, sh_82, sh_83, sh_84, and_self, true_and, and_true, if_true, eq_self]
  obtain ⟨h4, a_h4, G_h4⟩ := mk_0_84 (mk_Gn (mk_Gn G))
  rw [a_h4, Option.bind_some]
  simp only [mk_nw1, mk_pR1, mk_pI1, pb_hb, G.1, G_h4.1, Nat.reduceAdd, Nat.reduceLT, Nat.reduceEqDiff, pb_is, pb_ar, mk_z3, mk_z4, mk_z6, mk_z12, mk_z36, mk_z161, mk_z200, mk_z544, mk_z600, mk_z729, mk_z1288, mk_z2400, mk_z2401, tx_z0, tx_z1, tx_z2, mk_y0, mk_y1, mk_y2, sh_82, sh_83, sh_84, sh_91, and_self, true_and, and_true, if_true, eq_self]
  obtain ⟨h9, a_h9, G_h9⟩ := mk_0_91 (mk_Gn (mk_GR G_h4 (o := 83) (by decide) 0 84))
  rw [a_h9, Option.bind_some]
  simp only [mk_nw1, mk_pR1, mk_pI1, pb_hb, G.1, G_h4.1, G_h9.1, Nat.reduceAdd, Nat.reduceLT, Nat.reduceEqDiff, pb_is, pb_ar, mk_z3, mk_z4, mk_z6, mk_z12, mk_z36, mk_z161, mk_z200, mk_z544, mk_z600, mk_z729, mk_z1288, mk_z2400, mk_z2401, tx_z0, tx_z1, tx_z2, mk_y0, mk_y1, mk_y2, sh_82, sh_83, sh_84, sh_91, sh_98, sh_99, and_self, true_and, and_true, if_true, eq_self]
  obtain ⟨h16, a_h16, G_h16⟩ := mk_70_99 (mk_Gn (mk_Gn (mk_GR (mk_GR G_h9 (o := 83) (by decide) 1 91) (o := 82) (by decide) 0 83)))
  rw [a_h16, Option.bind_some]
  simp only [mk_nw1, mk_pR1, mk_pI1, pb_hb, G.1, G_h4.1, G_h9.1, G_h16.1, Nat.reduceAdd, Nat.reduceLT, Nat.reduceEqDiff, pb_is, pb_ar, mk_z3, mk_z4, mk_z6, mk_z12, mk_z36, mk_z161, mk_z200, mk_z544, mk_z600, mk_z729, mk_z1288, mk_z2400, mk_z2401, tx_z0, tx_z1, tx_z2, mk_y0, mk_y1, mk_y2, sh_82, sh_83, sh_84, sh_91, sh_98, sh_99, sh_104, and_self, true_and, and_true, if_true, eq_self]
  obtain ⟨h22, a_h22, G_h22⟩ := mk_70_104 (mk_Gn (mk_GR G_h16 (o := 98) (by decide) 0 99))
  rw [a_h22, Option.bind_some]
  simp only [mk_nw1, mk_pR1, mk_pI1, pb_hb, G.1, G_h4.1, G_h9.1, G_h16.1, G_h22.1, Nat.reduceAdd, Nat.reduceLT, Nat.reduceEqDiff, pb_is, pb_ar, mk_z3, mk_z4, mk_z6, mk_z12, mk_z36, mk_z161, mk_z200, mk_z544, mk_z600, mk_z729, mk_z1288, mk_z2400, mk_z2401, tx_z0, tx_z1, tx_z2, mk_y0, mk_y1, mk_y2, sh_82, sh_83, sh_84, sh_91, sh_98, sh_99, sh_104, sh_109, sh_110, and_self, true_and, and_true, if_true, eq_self]
  obtain ⟨h31, a_h31, G_h31⟩ := mk_70_110 (mk_Gn (mk_Gn (mk_GR (mk_GR G_h22 (o := 98) (by decide) 1 104) (o := 82) (by decide) 1 98)))
  rw [a_h31, Option.bind_some]
  simp only [mk_nw1, mk_pR1, mk_pI1, pb_hb, G.1, G_h4.1, G_h9.1, G_h16.1, G_h22.1, G_h31.1, Nat.reduceAdd, Nat.reduceLT, Nat.reduceEqDiff, pb_is, pb_ar, mk_z3, mk_z4, mk_z6, mk_z12, mk_z36, mk_z161, mk_z200, mk_z544, mk_z600, mk_z729, mk_z1288, mk_z2400, mk_z2401, tx_z0, tx_z1, tx_z2, mk_y0, mk_y1, mk_y2, sh_82, sh_83, sh_84, sh_91, sh_98, sh_99, sh_104, sh_109, sh_110, sh_115, and_self, true_and, and_true, if_true, eq_self]
  obtain ⟨h36, a_h36, G_h36⟩ := mk_70_115 (mk_Gn (mk_GR G_h31 (o := 109) (by decide) 0 110))
  rw [a_h36, Option.bind_some]
  simp only [mk_nw1, mk_pR1, mk_pI1, pb_hb, G.1, G_h4.1, G_h9.1, G_h16.1, G_h22.1, G_h31.1, G_h36.1, Nat.reduceAdd, Nat.reduceLT, Nat.reduceEqDiff, pb_is, pb_ar, mk_z3, mk_z4, mk_z6, mk_z12, mk_z36, mk_z161, mk_z200, mk_z544, mk_z600, mk_z729, mk_z1288, mk_z2400, mk_z2401, tx_z0, tx_z1, tx_z2, mk_y0, mk_y1, mk_y2, sh_82, sh_83, sh_84, sh_91, sh_98, sh_99, sh_104, sh_109, sh_110, sh_115, sh_120, sh_121, and_self, true_and, and_true, if_true, eq_self]
  exact ⟨_, rfl, (mk_GI (mk_GR (mk_Gn (mk_GR (mk_Gn (mk_GR (mk_GR G_h36 (o := 109) (by decide) 1 115) (o := 82) (by decide) 2 109)) (o := 82) (by decide) 3 120)) (o := 82) (by decide) 4 121) (o := 82) (by decide) 7 (-1))⟩
theorem mk_0_124 {h : pb_HP} {L : List (Nat × Nat × Nat)} {I : List (Nat × Nat × Int32)} (G : mk_G h 125 L I) : ∃ g, f_0 h 124 = some g ∧ mk_G g 131 ((124, 7, 130) :: (124, 6, 129) :: (124, 5, 128) :: (124, 4, 127) :: (124, 3, 126) :: (124, 2, 125) :: L) (I) := by
  unfold f_0
  simp only [mk_nw1, mk_pR1, mk_pI1, pb_hb, G.1, Nat.reduceAdd, Nat.reduceLT, Nat.reduceEqDiff, pb_is, pb_ar, mk_z3, mk_z4, mk_z6, mk_z12, mk_z36, mk_z161, mk_z200, mk_z544, mk_z600, mk_z729, mk_z1288, mk_z2400, mk_z2401, tx_z0, tx_z1, tx_z2, mk_y0, mk_y1, mk_y2, sh_124, sh_125, sh_126, sh_127, sh_128, sh_129, sh_130, and_self, true_and, and_true, if_true, eq_self]
  exact ⟨_, rfl, (mk_GR (mk_Gn (mk_GR (mk_Gn (mk_GR (mk_Gn (mk_GR (mk_Gn (mk_GR (mk_Gn (mk_GR (mk_Gn G) (o := 124) (by decide) 2 125)) (o := 124) (by decide) 3 126)) (o := 124) (by decide) 4 127)) (o := 124) (by decide) 5 128)) (o := 124) (by decide) 6 129)) (o := 124) (by decide) 7 130)⟩
theorem mk_0_131 {h : pb_HP} {L : List (Nat × Nat × Nat)} {I : List (Nat × Nat × Int32)} (G : mk_G h 132 L I) : ∃ g, f_0 h 131 = some g ∧ mk_G g 138 ((131, 7, 137) :: (131, 6, 136) :: (131, 5, 135) :: (131, 4, 134) :: (131, 3, 133) :: (131, 2, 132) :: L) (I) := by
  unfold f_0
  simp only [mk_nw1, mk_pR1, mk_pI1, pb_hb, G.1, Nat.reduceAdd, Nat.reduceLT, Nat.reduceEqDiff, pb_is, pb_ar, mk_z3, mk_z4, mk_z6, mk_z12, mk_z36, mk_z161, mk_z200, mk_z544, mk_z600, mk_z729, mk_z1288, mk_z2400, mk_z2401, tx_z0, tx_z1, tx_z2, mk_y0, mk_y1, mk_y2, sh_131, sh_132, sh_133, sh_134, sh_135, sh_136, sh_137, and_self, true_and, and_true, if_true, eq_self]
  exact ⟨_, rfl, (mk_GR (mk_Gn (mk_GR (mk_Gn (mk_GR (mk_Gn (mk_GR (mk_Gn (mk_GR (mk_Gn (mk_GR (mk_Gn G) (o := 131) (by decide) 2 132)) (o := 131) (by decide) 3 133)) (o := 131) (by decide) 4 134)) (o := 131) (by decide) 5 135)) (o := 131) (by decide) 6 136)) (o := 131) (by decide) 7 137)⟩
theorem mk_70_139 {h : pb_HP} {L : List (Nat × Nat × Nat)} {I : List (Nat × Nat × Int32)} (G : mk_G h 140 L I) : ∃ g, f_70 h 139 (40) (3) = some g ∧ mk_G g 144 ((139, 4, 143) :: (139, 3, 142) :: (139, 2, 141) :: (139, 1, 140) :: L) ((139, 5, (3)) :: I) := by
  unfold f_70
  simp only [mk_nw1, mk_pR1, mk_pI1, pb_hb, G.1, Nat.reduceAdd, Nat.reduceLT, Nat.reduceEqDiff, pb_is, pb_ar, mk_z3, mk_z4, mk_z6, mk_z12, mk_z36, mk_z161, mk_z200, mk_z544, mk_z600, mk_z729, mk_z1288, mk_z2400, mk_z2401, tx_z0, tx_z1, tx_z2, mk_y0, mk_y1, mk_y2, mk_w40, mk_w8, mk_v40, mk_v8, mk_z40, mk_z8, sh_139, sh_140, sh_141, sh_142, sh_143, and_self, true_and, and_true, if_true, eq_self]
  exact ⟨_, rfl, (mk_GI (mk_GR (mk_Gn (mk_GR (mk_Gn (mk_GR (mk_Gn (mk_GR (mk_Gn G) (o := 139) (by decide) 1 140)) (o := 139) (by decide) 2 141)) (o := 139) (by decide) 3 142)) (o := 139) (by decide) 4 143) (o := 139) (by decide) 5 (3))⟩
theorem mk_70_144 {h : pb_HP} {L : List (Nat × Nat × Nat)} {I : List (Nat × Nat × Int32)} (G : mk_G h 145 L I) : ∃ g, f_70 h 144 (40) (3) = some g ∧ mk_G g 149 ((144, 4, 148) :: (144, 3, 147) :: (144, 2, 146) :: (144, 1, 145) :: L) ((144, 5, (3)) :: I) := by
  unfold f_70
  simp only [mk_nw1, mk_pR1, mk_pI1, pb_hb, G.1, Nat.reduceAdd, Nat.reduceLT, Nat.reduceEqDiff, pb_is, pb_ar, mk_z3, mk_z4, mk_z6, mk_z12, mk_z36, mk_z161, mk_z200, mk_z544, mk_z600, mk_z729, mk_z1288, mk_z2400, mk_z2401, tx_z0, tx_z1, tx_z2, mk_y0, mk_y1, mk_y2, mk_w40, mk_w8, mk_v40, mk_v8, mk_z40, mk_z8, sh_144, sh_145, sh_146, sh_147, sh_148, and_self, true_and, and_true, if_true, eq_self]
  exact ⟨_, rfl, (mk_GI (mk_GR (mk_Gn (mk_GR (mk_Gn (mk_GR (mk_Gn (mk_GR (mk_Gn G) (o := 144) (by decide) 1 145)) (o := 144) (by decide) 2 146)) (o := 144) (by decide) 3 147)) (o := 144) (by decide) 4 148) (o := 144) (by decide) 5 (3))⟩
theorem mk_70_150 {h : pb_HP} {L : List (Nat × Nat × Nat)} {I : List (Nat × Nat × Int32)} (G : mk_G h 151 L I) : ∃ g, f_70 h 150 (8) (2) = some g ∧ mk_G g 155 ((150, 4, 154) :: (150, 3, 153) :: (150, 2, 152) :: (150, 1, 151) :: L) ((150, 5, (2)) :: I) := by
  unfold f_70
  simp only [mk_nw1, mk_pR1, mk_pI1, pb_hb, G.1, Nat.reduceAdd, Nat.reduceLT, Nat.reduceEqDiff, pb_is, pb_ar, mk_z3, mk_z4, mk_z6, mk_z12, mk_z36, mk_z161, mk_z200, mk_z544, mk_z600, mk_z729, mk_z1288, mk_z2400, mk_z2401, tx_z0, tx_z1, tx_z2, mk_y0, mk_y1, mk_y2, mk_w40, mk_w8, mk_v40, mk_v8, mk_z40, mk_z8, sh_150, sh_151, sh_152, sh_153, sh_154, and_self, true_and, and_true, if_true, eq_self]
  exact ⟨_, rfl, (mk_GI (mk_GR (mk_Gn (mk_GR (mk_Gn (mk_GR (mk_Gn (mk_GR (mk_Gn G) (o := 150) (by decide) 1 151)) (o := 150) (by decide) 2 152)) (o := 150) (by decide) 3 153)) (o := 150) (by decide) 4 154) (o := 150) (by decide) 5 (2))⟩
theorem mk_70_155 {h : pb_HP} {L : List (Nat × Nat × Nat)} {I : List (Nat × Nat × Int32)} (G : mk_G h 156 L I) : ∃ g, f_70 h 155 (8) (2) = some g ∧ mk_G g 160 ((155, 4, 159) :: (155, 3, 158) :: (155, 2, 157) :: (155, 1, 156) :: L) ((155, 5, (2)) :: I) := by
  unfold f_70
  simp only [mk_nw1, mk_pR1, mk_pI1, pb_hb, G.1, Nat.reduceAdd, Nat.reduceLT, Nat.reduceEqDiff, pb_is, pb_ar, mk_z3, mk_z4, mk_z6, mk_z12, mk_z36, mk_z161, mk_z200, mk_z544, mk_z600, mk_z729, mk_z1288, mk_z2400, mk_z2401, tx_z0, tx_z1, tx_z2, mk_y0, mk_y1, mk_y2, mk_w40, mk_w8, mk_v40, mk_v8, mk_z40, mk_z8, sh_155, sh_156, sh_157, sh_158, sh_159, and_self, true_and, and_true, if_true, eq_self]
  exact ⟨_, rfl, (mk_GI (mk_GR (mk_Gn (mk_GR (mk_Gn (mk_GR (mk_Gn (mk_GR (mk_Gn G) (o := 155) (by decide) 1 156)) (o := 155) (by decide) 2 157)) (o := 155) (by decide) 3 158)) (o := 155) (by decide) 4 159) (o := 155) (by decide) 5 (2))⟩
theorem mk_99_122 {h : pb_HP} {L : List (Nat × Nat × Nat)} {I : List (Nat × Nat × Int32)} (G : mk_G h 123 L I) : ∃ g, f_99 h 122 = some g ∧ mk_G g 162 ((122, 4, 161) :: (122, 3, 160) :: (122, 2, 149) :: (149, 1, 155) :: (155, 4, 159) :: (155, 3, 158) :: (155, 2, 157) :: (155, 1, 156) :: (149, 0, 150) :: (150, 4, 154) :: (150, 3, 153) :: (150, 2, 152) :: (150, 1, 151) :: (122, 1, 138) :: (138, 1, 144) :: (144, 4, 148) :: (144, 3, 147) :: (144, 2, 146) :: (144, 1, 145) :: (138, 0, 139) :: (139, 4, 143) :: (139, 3, 142) :: (139, 2, 141) :: (139, 1, 140) :: (122, 0, 123) :: (123, 1, 131) :: (131, 7, 137) :: (131, 6, 136) :: (131, 5, 135) :: (131, 4, 134) :: (131, 3, 133) :: (131, 2, 132) :: (123, 0, 124) :: (124, 7, 130) :: (124, 6, 129) :: (124, 5, 128) :: (124, 4, 127) :: (124, 3, 126) :: (124, 2, 125) :: L) ((122, 7, (-1)) :: (155, 5, (2)) :: (150, 5, (2)) :: (144, 5, (3)) :: (139, 5, (3)) :: I) := by
  unfold f_99
  simp only [mk_nw1, mk_pR1, mk_pI1, pb_hb, G.1, Nat.reduceAdd, Nat.reduceLT, Nat.reduceEqDiff, pb_is, pb_ar, mk_z3, mk_z4, mk_z6, mk_z12, mk_z36, mk_z161, mk_z200, mk_z544, mk_z600, mk_z729, mk_z1288, mk_z2400, mk_z2401, tx_z0, tx_z1, tx_z2, mk_y0, mk_y1, mk_y2, sh_122, sh_123, sh_124, and_self, true_and, and_true, if_true, eq_self]
  obtain ⟨h4, a_h4, G_h4⟩ := mk_0_124 (mk_Gn (mk_Gn G))
  rw [a_h4, Option.bind_some]
  simp only [mk_nw1, mk_pR1, mk_pI1, pb_hb, G.1, G_h4.1, Nat.reduceAdd, Nat.reduceLT, Nat.reduceEqDiff, pb_is, pb_ar, mk_z3, mk_z4, mk_z6, mk_z12, mk_z36, mk_z161, mk_z200, mk_z544, mk_z600, mk_z729, mk_z1288, mk_z2400, mk_z2401, tx_z0, tx_z1, tx_z2, mk_y0, mk_y1, mk_y2, sh_122, sh_123, sh_124, sh_131, and_self, true_and, and_true, if_true, eq_self]
  obtain ⟨h9, a_h9, G_h9⟩ := mk_0_131 (mk_Gn (mk_GR G_h4 (o := 123) (by decide) 0 124))
  rw [a_h9, Option.bind_some]
  simp only [mk_nw1, mk_pR1, mk_pI1, pb_hb, G.1, G_h4.1, G_h9.1, Nat.reduceAdd, Nat.reduceLT, Nat.reduceEqDiff, pb_is, pb_ar, mk_z3, mk_z4, mk_z6, mk_z12, mk_z36, mk_z161, mk_z200, mk_z544, mk_z600, mk_z729, mk_z1288, mk_z2400, mk_z2401, tx_z0, tx_z1, tx_z2, mk_y0, mk_y1, mk_y2, sh_122, sh_123, sh_124, sh_131, sh_138, sh_139, and_self, true_and, and_true, if_true, eq_self]
  obtain ⟨h16, a_h16, G_h16⟩ := mk_70_139 (mk_Gn (mk_Gn (mk_GR (mk_GR G_h9 (o := 123) (by decide) 1 131) (o := 122) (by decide) 0 123)))
  rw [a_h16, Option.bind_some]
  simp only [mk_nw1, mk_pR1, mk_pI1, pb_hb, G.1, G_h4.1, G_h9.1, G_h16.1, Nat.reduceAdd, Nat.reduceLT, Nat.reduceEqDiff, pb_is, pb_ar, mk_z3, mk_z4, mk_z6, mk_z12, mk_z36, mk_z161, mk_z200, mk_z544, mk_z600, mk_z729, mk_z1288, mk_z2400, mk_z2401, tx_z0, tx_z1, tx_z2, mk_y0, mk_y1, mk_y2, sh_122, sh_123, sh_124, sh_131, sh_138, sh_139, sh_144, and_self, true_and, and_true, if_true, eq_self]
  obtain ⟨h22, a_h22, G_h22⟩ := mk_70_144 (mk_Gn (mk_GR G_h16 (o := 138) (by decide) 0 139))
  rw [a_h22, Option.bind_some]
  simp only [mk_nw1, mk_pR1, mk_pI1, pb_hb, G.1, G_h4.1, G_h9.1, G_h16.1, G_h22.1, Nat.reduceAdd, Nat.reduceLT, Nat.reduceEqDiff, pb_is, pb_ar, mk_z3, mk_z4, mk_z6, mk_z12, mk_z36, mk_z161, mk_z200, mk_z544, mk_z600, mk_z729, mk_z1288, mk_z2400, mk_z2401, tx_z0, tx_z1, tx_z2, mk_y0, mk_y1, mk_y2, sh_122, sh_123, sh_124, sh_131, sh_138, sh_139, sh_144, sh_149, sh_150, and_self, true_and, and_true, if_true, eq_self]
  obtain ⟨h31, a_h31, G_h31⟩ := mk_70_150 (mk_Gn (mk_Gn (mk_GR (mk_GR G_h22 (o := 138) (by decide) 1 144) (o := 122) (by decide) 1 138)))
  rw [a_h31, Option.bind_some]
  simp only [mk_nw1, mk_pR1, mk_pI1, pb_hb, G.1, G_h4.1, G_h9.1, G_h16.1, G_h22.1, G_h31.1, Nat.reduceAdd, Nat.reduceLT, Nat.reduceEqDiff, pb_is, pb_ar, mk_z3, mk_z4, mk_z6, mk_z12, mk_z36, mk_z161, mk_z200, mk_z544, mk_z600, mk_z729, mk_z1288, mk_z2400, mk_z2401, tx_z0, tx_z1, tx_z2, mk_y0, mk_y1, mk_y2, sh_122, sh_123, sh_124, sh_131, sh_138, sh_139, sh_144, sh_149, sh_150, sh_155, and_self, true_and, and_true, if_true, eq_self]
  obtain ⟨h36, a_h36, G_h36⟩ := mk_70_155 (mk_Gn (mk_GR G_h31 (o := 149) (by decide) 0 150))
  rw [a_h36, Option.bind_some]
  simp only [mk_nw1, mk_pR1, mk_pI1, pb_hb, G.1, G_h4.1, G_h9.1, G_h16.1, G_h22.1, G_h31.1, G_h36.1, Nat.reduceAdd, Nat.reduceLT, Nat.reduceEqDiff, pb_is, pb_ar, mk_z3, mk_z4, mk_z6, mk_z12, mk_z36, mk_z161, mk_z200, mk_z544, mk_z600, mk_z729, mk_z1288, mk_z2400, mk_z2401, tx_z0, tx_z1, tx_z2, mk_y0, mk_y1, mk_y2, sh_122, sh_123, sh_124, sh_131, sh_138, sh_139, sh_144, sh_149, sh_150, sh_155, sh_160, sh_161, and_self, true_and, and_true, if_true, eq_self]
  exact ⟨_, rfl, (mk_GI (mk_GR (mk_Gn (mk_GR (mk_Gn (mk_GR (mk_GR G_h36 (o := 149) (by decide) 1 155) (o := 122) (by decide) 2 149)) (o := 122) (by decide) 3 160)) (o := 122) (by decide) 4 161) (o := 122) (by decide) 7 (-1))⟩
theorem mk_0_164 {h : pb_HP} {L : List (Nat × Nat × Nat)} {I : List (Nat × Nat × Int32)} (G : mk_G h 165 L I) : ∃ g, f_0 h 164 = some g ∧ mk_G g 171 ((164, 7, 170) :: (164, 6, 169) :: (164, 5, 168) :: (164, 4, 167) :: (164, 3, 166) :: (164, 2, 165) :: L) (I) := by
  unfold f_0
  simp only [mk_nw1, mk_pR1, mk_pI1, pb_hb, G.1, Nat.reduceAdd, Nat.reduceLT, Nat.reduceEqDiff, pb_is, pb_ar, mk_z3, mk_z4, mk_z6, mk_z12, mk_z36, mk_z161, mk_z200, mk_z544, mk_z600, mk_z729, mk_z1288, mk_z2400, mk_z2401, tx_z0, tx_z1, tx_z2, mk_y0, mk_y1, mk_y2, sh_164, sh_165, sh_166, sh_167, sh_168, sh_169, sh_170, and_self, true_and, and_true, if_true, eq_self]
  exact ⟨_, rfl, (mk_GR (mk_Gn (mk_GR (mk_Gn (mk_GR (mk_Gn (mk_GR (mk_Gn (mk_GR (mk_Gn (mk_GR (mk_Gn G) (o := 164) (by decide) 2 165)) (o := 164) (by decide) 3 166)) (o := 164) (by decide) 4 167)) (o := 164) (by decide) 5 168)) (o := 164) (by decide) 6 169)) (o := 164) (by decide) 7 170)⟩
theorem mk_70_171 {h : pb_HP} {L : List (Nat × Nat × Nat)} {I : List (Nat × Nat × Int32)} (G : mk_G h 172 L I) : ∃ g, f_70 h 171 (40) (3) = some g ∧ mk_G g 176 ((171, 4, 175) :: (171, 3, 174) :: (171, 2, 173) :: (171, 1, 172) :: L) ((171, 5, (3)) :: I) := by
  unfold f_70
  simp only [mk_nw1, mk_pR1, mk_pI1, pb_hb, G.1, Nat.reduceAdd, Nat.reduceLT, Nat.reduceEqDiff, pb_is, pb_ar, mk_z3, mk_z4, mk_z6, mk_z12, mk_z36, mk_z161, mk_z200, mk_z544, mk_z600, mk_z729, mk_z1288, mk_z2400, mk_z2401, tx_z0, tx_z1, tx_z2, mk_y0, mk_y1, mk_y2, mk_w40, mk_w8, mk_v40, mk_v8, mk_z40, mk_z8, sh_171, sh_172, sh_173, sh_174, sh_175, and_self, true_and, and_true, if_true, eq_self]
  exact ⟨_, rfl, (mk_GI (mk_GR (mk_Gn (mk_GR (mk_Gn (mk_GR (mk_Gn (mk_GR (mk_Gn G) (o := 171) (by decide) 1 172)) (o := 171) (by decide) 2 173)) (o := 171) (by decide) 3 174)) (o := 171) (by decide) 4 175) (o := 171) (by decide) 5 (3))⟩
theorem mk_70_176 {h : pb_HP} {L : List (Nat × Nat × Nat)} {I : List (Nat × Nat × Int32)} (G : mk_G h 177 L I) : ∃ g, f_70 h 176 (8) (2) = some g ∧ mk_G g 181 ((176, 4, 180) :: (176, 3, 179) :: (176, 2, 178) :: (176, 1, 177) :: L) ((176, 5, (2)) :: I) := by
  unfold f_70
  simp only [mk_nw1, mk_pR1, mk_pI1, pb_hb, G.1, Nat.reduceAdd, Nat.reduceLT, Nat.reduceEqDiff, pb_is, pb_ar, mk_z3, mk_z4, mk_z6, mk_z12, mk_z36, mk_z161, mk_z200, mk_z544, mk_z600, mk_z729, mk_z1288, mk_z2400, mk_z2401, tx_z0, tx_z1, tx_z2, mk_y0, mk_y1, mk_y2, mk_w40, mk_w8, mk_v40, mk_v8, mk_z40, mk_z8, sh_176, sh_177, sh_178, sh_179, sh_180, and_self, true_and, and_true, if_true, eq_self]
  exact ⟨_, rfl, (mk_GI (mk_GR (mk_Gn (mk_GR (mk_Gn (mk_GR (mk_Gn (mk_GR (mk_Gn G) (o := 176) (by decide) 1 177)) (o := 176) (by decide) 2 178)) (o := 176) (by decide) 3 179)) (o := 176) (by decide) 4 180) (o := 176) (by decide) 5 (2))⟩
theorem mk_84_163 {h : pb_HP} {L : List (Nat × Nat × Nat)} {I : List (Nat × Nat × Int32)} (G : mk_G h 164 L I) : ∃ g, f_84 h 163 = some g ∧ mk_G g 182 ((163, 12, 181) :: (163, 2, 176) :: (176, 4, 180) :: (176, 3, 179) :: (176, 2, 178) :: (176, 1, 177) :: (163, 1, 171) :: (171, 4, 175) :: (171, 3, 174) :: (171, 2, 173) :: (171, 1, 172) :: (163, 0, 164) :: (164, 7, 170) :: (164, 6, 169) :: (164, 5, 168) :: (164, 4, 167) :: (164, 3, 166) :: (164, 2, 165) :: L) ((176, 5, (2)) :: (171, 5, (3)) :: I) := by
  unfold f_84
  simp only [mk_nw1, mk_pR1, mk_pI1, pb_hb, G.1, Nat.reduceAdd, Nat.reduceLT, Nat.reduceEqDiff, pb_is, pb_ar, mk_z3, mk_z4, mk_z6, mk_z12, mk_z36, mk_z161, mk_z200, mk_z544, mk_z600, mk_z729, mk_z1288, mk_z2400, mk_z2401, tx_z0, tx_z1, tx_z2, mk_y0, mk_y1, mk_y2, sh_163, sh_164, and_self, true_and, and_true, if_true, eq_self]
  obtain ⟨h3, a_h3, G_h3⟩ := mk_0_164 (mk_Gn G)
  rw [a_h3, Option.bind_some]
  simp only [mk_nw1, mk_pR1, mk_pI1, pb_hb, G.1, G_h3.1, Nat.reduceAdd, Nat.reduceLT, Nat.reduceEqDiff, pb_is, pb_ar, mk_z3, mk_z4, mk_z6, mk_z12, mk_z36, mk_z161, mk_z200, mk_z544, mk_z600, mk_z729, mk_z1288, mk_z2400, mk_z2401, tx_z0, tx_z1, tx_z2, mk_y0, mk_y1, mk_y2, sh_163, sh_164, sh_171, and_self, true_and, and_true, if_true, eq_self]
  obtain ⟨h7, a_h7, G_h7⟩ := mk_70_171 (mk_Gn (mk_GR G_h3 (o := 163) (by decide) 0 164))
  rw [a_h7, Option.bind_some]
  simp only [mk_nw1, mk_pR1, mk_pI1, pb_hb, G.1, G_h3.1, G_h7.1, Nat.reduceAdd, Nat.reduceLT, Nat.reduceEqDiff, pb_is, pb_ar, mk_z3, mk_z4, mk_z6, mk_z12, mk_z36, mk_z161, mk_z200, mk_z544, mk_z600, mk_z729, mk_z1288, mk_z2400, mk_z2401, tx_z0, tx_z1, tx_z2, mk_y0, mk_y1, mk_y2, sh_163, sh_164, sh_171, sh_176, and_self, true_and, and_true, if_true, eq_self]
  obtain ⟨h11, a_h11, G_h11⟩ := mk_70_176 (mk_Gn (mk_GR G_h7 (o := 163) (by decide) 1 171))
  rw [a_h11, Option.bind_some]
  simp only [mk_nw1, mk_pR1, mk_pI1, pb_hb, G.1, G_h3.1, G_h7.1, G_h11.1, Nat.reduceAdd, Nat.reduceLT, Nat.reduceEqDiff, pb_is, pb_ar, mk_z3, mk_z4, mk_z6, mk_z12, mk_z36, mk_z161, mk_z200, mk_z544, mk_z600, mk_z729, mk_z1288, mk_z2400, mk_z2401, tx_z0, tx_z1, tx_z2, mk_y0, mk_y1, mk_y2, sh_163, sh_164, sh_171, sh_176, sh_181, and_self, true_and, and_true, if_true, eq_self]
  exact ⟨_, rfl, (mk_GR (mk_Gn (mk_GR G_h11 (o := 163) (by decide) 2 176)) (o := 163) (by decide) 12 181)⟩
theorem mk_75_182 {h : pb_HP} {L : List (Nat × Nat × Nat)} {I : List (Nat × Nat × Int32)} (G : mk_G h 183 L I) : ∃ g, f_75 h 182 = some g ∧ mk_G g 184 ((182, 2, 183) :: L) (I) := by
  unfold f_75
  simp only [mk_nw1, mk_pR1, mk_pI1, pb_hb, G.1, Nat.reduceAdd, Nat.reduceLT, Nat.reduceEqDiff, pb_is, pb_ar, mk_z3, mk_z4, mk_z6, mk_z12, mk_z36, mk_z161, mk_z200, mk_z544, mk_z600, mk_z729, mk_z1288, mk_z2400, mk_z2401, tx_z0, tx_z1, tx_z2, mk_y0, mk_y1, mk_y2, sh_182, sh_183, and_self, true_and, and_true, if_true, eq_self]
  exact ⟨_, rfl, (mk_GR (mk_Gn G) (o := 182) (by decide) 2 183)⟩
theorem mk_0_185 {h : pb_HP} {L : List (Nat × Nat × Nat)} {I : List (Nat × Nat × Int32)} (G : mk_G h 186 L I) : ∃ g, f_0 h 185 = some g ∧ mk_G g 192 ((185, 7, 191) :: (185, 6, 190) :: (185, 5, 189) :: (185, 4, 188) :: (185, 3, 187) :: (185, 2, 186) :: L) (I) := by
  unfold f_0
  simp only [mk_nw1, mk_pR1, mk_pI1, pb_hb, G.1, Nat.reduceAdd, Nat.reduceLT, Nat.reduceEqDiff, pb_is, pb_ar, mk_z3, mk_z4, mk_z6, mk_z12, mk_z36, mk_z161, mk_z200, mk_z544, mk_z600, mk_z729, mk_z1288, mk_z2400, mk_z2401, tx_z0, tx_z1, tx_z2, mk_y0, mk_y1, mk_y2, sh_185, sh_186, sh_187, sh_188, sh_189, sh_190, sh_191, and_self, true_and, and_true, if_true, eq_self]
  exact ⟨_, rfl, (mk_GR (mk_Gn (mk_GR (mk_Gn (mk_GR (mk_Gn (mk_GR (mk_Gn (mk_GR (mk_Gn (mk_GR (mk_Gn G) (o := 185) (by decide) 2 186)) (o := 185) (by decide) 3 187)) (o := 185) (by decide) 4 188)) (o := 185) (by decide) 5 189)) (o := 185) (by decide) 6 190)) (o := 185) (by decide) 7 191)⟩
theorem mk_75_192 {h : pb_HP} {L : List (Nat × Nat × Nat)} {I : List (Nat × Nat × Int32)} (G : mk_G h 193 L I) : ∃ g, f_75 h 192 = some g ∧ mk_G g 194 ((192, 2, 193) :: L) (I) := by
  unfold f_75
  simp only [mk_nw1, mk_pR1, mk_pI1, pb_hb, G.1, Nat.reduceAdd, Nat.reduceLT, Nat.reduceEqDiff, pb_is, pb_ar, mk_z3, mk_z4, mk_z6, mk_z12, mk_z36, mk_z161, mk_z200, mk_z544, mk_z600, mk_z729, mk_z1288, mk_z2400, mk_z2401, tx_z0, tx_z1, tx_z2, mk_y0, mk_y1, mk_y2, sh_192, sh_193, and_self, true_and, and_true, if_true, eq_self]
  exact ⟨_, rfl, (mk_GR (mk_Gn G) (o := 192) (by decide) 2 193)⟩
theorem mk_108_184 {h : pb_HP} {L : List (Nat × Nat × Nat)} {I : List (Nat × Nat × Int32)} (G : mk_G h 185 L I) : ∃ g, f_108 h 184 = some g ∧ mk_G g 194 ((184, 1, 192) :: (192, 2, 193) :: (184, 0, 185) :: (185, 7, 191) :: (185, 6, 190) :: (185, 5, 189) :: (185, 4, 188) :: (185, 3, 187) :: (185, 2, 186) :: L) (I) := by
  unfold f_108
  simp only [mk_nw1, mk_pR1, mk_pI1, pb_hb, G.1, Nat.reduceAdd, Nat.reduceLT, Nat.reduceEqDiff, pb_is, pb_ar, mk_z3, mk_z4, mk_z6, mk_z12, mk_z36, mk_z161, mk_z200, mk_z544, mk_z600, mk_z729, mk_z1288, mk_z2400, mk_z2401, tx_z0, tx_z1, tx_z2, mk_y0, mk_y1, mk_y2, sh_184, sh_185, and_self, true_and, and_true, if_true, eq_self]
  obtain ⟨h3, a_h3, G_h3⟩ := mk_0_185 (mk_Gn G)
  rw [a_h3, Option.bind_some]
  simp only [mk_nw1, mk_pR1, mk_pI1, pb_hb, G.1, G_h3.1, Nat.reduceAdd, Nat.reduceLT, Nat.reduceEqDiff, pb_is, pb_ar, mk_z3, mk_z4, mk_z6, mk_z12, mk_z36, mk_z161, mk_z200, mk_z544, mk_z600, mk_z729, mk_z1288, mk_z2400, mk_z2401, tx_z0, tx_z1, tx_z2, mk_y0, mk_y1, mk_y2, sh_184, sh_185, sh_192, and_self, true_and, and_true, if_true, eq_self]
  obtain ⟨h7, a_h7, G_h7⟩ := mk_75_192 (mk_Gn (mk_GR G_h3 (o := 184) (by decide) 0 185))
  rw [a_h7, Option.bind_some]
  simp only [mk_nw1, mk_pR1, mk_pI1, pb_hb, G.1, G_h3.1, G_h7.1, Nat.reduceAdd, Nat.reduceLT, Nat.reduceEqDiff, pb_is, pb_ar, mk_z3, mk_z4, mk_z6, mk_z12, mk_z36, mk_z161, mk_z200, mk_z544, mk_z600, mk_z729, mk_z1288, mk_z2400, mk_z2401, tx_z0, tx_z1, tx_z2, mk_y0, mk_y1, mk_y2, sh_184, sh_185, sh_192, and_self, true_and, and_true, if_true, eq_self]
  exact ⟨_, rfl, (mk_GR G_h7 (o := 184) (by decide) 1 192)⟩
theorem mk_49_194 {h : pb_HP} {L : List (Nat × Nat × Nat)} {I : List (Nat × Nat × Int32)} (G : mk_G h 195 L I) : ∃ g, f_49 h 194 = some g ∧ mk_G g 198 ((194, 3, 197) :: (194, 2, 196) :: (194, 0, 195) :: L) (I) := by
  unfold f_49
  simp only [mk_nw1, mk_pR1, mk_pI1, pb_hb, G.1, Nat.reduceAdd, Nat.reduceLT, Nat.reduceEqDiff, pb_is, pb_ar, mk_z3, mk_z4, mk_z6, mk_z12, mk_z36, mk_z161, mk_z200, mk_z544, mk_z600, mk_z729, mk_z1288, mk_z2400, mk_z2401, tx_z0, tx_z1, tx_z2, mk_y0, mk_y1, mk_y2, sh_194, sh_195, sh_196, sh_197, and_self, true_and, and_true, if_true, eq_self]
  exact ⟨_, rfl, (mk_GR (mk_Gn (mk_GR (mk_Gn (mk_GR (mk_Gn G) (o := 194) (by decide) 0 195)) (o := 194) (by decide) 2 196)) (o := 194) (by decide) 3 197)⟩
theorem mk_119_198 {h : pb_HP} {L : List (Nat × Nat × Nat)} {I : List (Nat × Nat × Int32)} (G : mk_G h 199 L I) : ∃ g, f_119 h 198 = some g ∧ mk_G g 200 ((198, 0, 199) :: L) (I) := by
  unfold f_119
  simp only [mk_nw1, mk_pR1, mk_pI1, pb_hb, G.1, Nat.reduceAdd, Nat.reduceLT, Nat.reduceEqDiff, pb_is, pb_ar, mk_z3, mk_z4, mk_z6, mk_z12, mk_z36, mk_z161, mk_z200, mk_z544, mk_z600, mk_z729, mk_z1288, mk_z2400, mk_z2401, tx_z0, tx_z1, tx_z2, mk_y0, mk_y1, mk_y2, sh_198, sh_199, and_self, true_and, and_true, if_true, eq_self]
  exact ⟨_, rfl, (mk_GR (mk_Gn G) (o := 198) (by decide) 0 199)⟩
theorem mk_0_201 {h : pb_HP} {L : List (Nat × Nat × Nat)} {I : List (Nat × Nat × Int32)} (G : mk_G h 202 L I) : ∃ g, f_0 h 201 = some g ∧ mk_G g 208 ((201, 7, 207) :: (201, 6, 206) :: (201, 5, 205) :: (201, 4, 204) :: (201, 3, 203) :: (201, 2, 202) :: L) (I) := by
  unfold f_0
  simp only [mk_nw1, mk_pR1, mk_pI1, pb_hb, G.1, Nat.reduceAdd, Nat.reduceLT, Nat.reduceEqDiff, pb_is, pb_ar, mk_z3, mk_z4, mk_z6, mk_z12, mk_z36, mk_z161, mk_z200, mk_z544, mk_z600, mk_z729, mk_z1288, mk_z2400, mk_z2401, tx_z0, tx_z1, tx_z2, mk_y0, mk_y1, mk_y2, sh_201, sh_202, sh_203, sh_204, sh_205, sh_206, sh_207, and_self, true_and, and_true, if_true, eq_self]
  exact ⟨_, rfl, (mk_GR (mk_Gn (mk_GR (mk_Gn (mk_GR (mk_Gn (mk_GR (mk_Gn (mk_GR (mk_Gn (mk_GR (mk_Gn G) (o := 201) (by decide) 2 202)) (o := 201) (by decide) 3 203)) (o := 201) (by decide) 4 204)) (o := 201) (by decide) 5 205)) (o := 201) (by decide) 6 206)) (o := 201) (by decide) 7 207)⟩
theorem mk_75_208 {h : pb_HP} {L : List (Nat × Nat × Nat)} {I : List (Nat × Nat × Int32)} (G : mk_G h 209 L I) : ∃ g, f_75 h 208 = some g ∧ mk_G g 210 ((208, 2, 209) :: L) (I) := by
  unfold f_75
  simp only [mk_nw1, mk_pR1, mk_pI1, pb_hb, G.1, Nat.reduceAdd, Nat.reduceLT, Nat.reduceEqDiff, pb_is, pb_ar, mk_z3, mk_z4, mk_z6, mk_z12, mk_z36, mk_z161, mk_z200, mk_z544, mk_z600, mk_z729, mk_z1288, mk_z2400, mk_z2401, tx_z0, tx_z1, tx_z2, mk_y0, mk_y1, mk_y2, sh_208, sh_209, and_self, true_and, and_true, if_true, eq_self]
  exact ⟨_, rfl, (mk_GR (mk_Gn G) (o := 208) (by decide) 2 209)⟩
theorem mk_27_200 {h : pb_HP} {L : List (Nat × Nat × Nat)} {I : List (Nat × Nat × Int32)} (G : mk_G h 201 L I) : ∃ g, f_27 h 200 = some g ∧ mk_G g 212 ((200, 3, 211) :: (200, 2, 210) :: (200, 1, 208) :: (208, 2, 209) :: (200, 0, 201) :: (201, 7, 207) :: (201, 6, 206) :: (201, 5, 205) :: (201, 4, 204) :: (201, 3, 203) :: (201, 2, 202) :: L) (I) := by
  unfold f_27
  simp only [mk_nw1, mk_pR1, mk_pI1, pb_hb, G.1, Nat.reduceAdd, Nat.reduceLT, Nat.reduceEqDiff, pb_is, pb_ar, mk_z3, mk_z4, mk_z6, mk_z12, mk_z36, mk_z161, mk_z200, mk_z544, mk_z600, mk_z729, mk_z1288, mk_z2400, mk_z2401, tx_z0, tx_z1, tx_z2, mk_y0, mk_y1, mk_y2, sh_200, sh_201, and_self, true_and, and_true, if_true, eq_self]
  obtain ⟨h3, a_h3, G_h3⟩ := mk_0_201 (mk_Gn G)
  rw [a_h3, Option.bind_some]
  simp only [mk_nw1, mk_pR1, mk_pI1, pb_hb, G.1, G_h3.1, Nat.reduceAdd, Nat.reduceLT, Nat.reduceEqDiff, pb_is, pb_ar, mk_z3, mk_z4, mk_z6, mk_z12, mk_z36, mk_z161, mk_z200, mk_z544, mk_z600, mk_z729, mk_z1288, mk_z2400, mk_z2401, tx_z0, tx_z1, tx_z2, mk_y0, mk_y1, mk_y2, sh_200, sh_201, sh_208, and_self, true_and, and_true, if_true, eq_self]
  obtain ⟨h7, a_h7, G_h7⟩ := mk_75_208 (mk_Gn (mk_GR G_h3 (o := 200) (by decide) 0 201))
  rw [a_h7, Option.bind_some]
  simp only [mk_nw1, mk_pR1, mk_pI1, pb_hb, G.1, G_h3.1, G_h7.1, Nat.reduceAdd, Nat.reduceLT, Nat.reduceEqDiff, pb_is, pb_ar, mk_z3, mk_z4, mk_z6, mk_z12, mk_z36, mk_z161, mk_z200, mk_z544, mk_z600, mk_z729, mk_z1288, mk_z2400, mk_z2401, tx_z0, tx_z1, tx_z2, mk_y0, mk_y1, mk_y2, sh_200, sh_201, sh_208, sh_210, sh_211, and_self, true_and, and_true, if_true, eq_self]
  exact ⟨_, rfl, (mk_GR (mk_Gn (mk_GR (mk_Gn (mk_GR G_h7 (o := 200) (by decide) 1 208)) (o := 200) (by decide) 2 210)) (o := 200) (by decide) 3 211)⟩

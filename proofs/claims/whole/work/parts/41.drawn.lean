/-! Drawn by a seed. -/
def sp_nx (x : Int32) : Int32 := x * 1103515245 + 12345
def sp_dn (x : Int32) (n : Nat) : Nat := x.toBitVec.toNat / 65536 % n
theorem ma_ush (x : Int32) : (x.toUInt32 >>> (Int32.toUInt32 16 &&& Int32.toUInt32 31)).toInt32 = nI (x.toBitVec.toNat / 65536) := by
  apply Int32.toBitVec_inj.1
  apply BitVec.eq_of_toNat_eq
  rw [pk_ushr x 16 16 (by decide), pk_tn]
  have := x.toBitVec.isLt
  exact Nat.lt_of_le_of_lt (Nat.div_le_self _ _) this
theorem sp_dn_lt (x : Int32) {n : Nat} (h : 0 < n) : sp_dn x n < n := Nat.mod_lt _ h
theorem ma_drw (x : Int32) {n : Nat} (h0 : 0 < n) (hn : n < 2 ^ 31) : (x.toUInt32 >>> (Int32.toUInt32 16 &&& Int32.toUInt32 31)).toInt32 - (x.toUInt32 >>> (Int32.toUInt32 16 &&& Int32.toUInt32 31)).toInt32 / nI n * nI n = nI (sp_dn x n) := by
  rw [ma_ush]
  have := x.toBitVec.isLt
  exact pk_rem (by omega) h0 hn
def sp_go (S : ma_S) (d : ma_dd) : ma_S := match sp_act S d with
  | none => S
  | some S2 => S2
/-- a deed drawn -/
def sp_dw (p : ma_S × Int32) : ma_S × Int32 :=
  if 5 < sp_dn (sp_nx p.2) 10 then (sp_go p.1 (if 7 < sp_dn (sp_nx p.2) 10 then 6 else 5, 0, 0, 0), sp_nx p.2)
  else if sp_dn (sp_nx p.2) 10 < 3 then (if 0 < p.1.1 0 0 then (sp_go p.1 (if sp_dn (sp_nx p.2) 10 = 2 then 1 else 0, sp_dn (sp_nx (sp_nx p.2)) (p.1.1 0 0), sp_dn (sp_nx (sp_nx (sp_nx p.2))) 6, 0), sp_nx (sp_nx (sp_nx p.2))) else (p.1, sp_nx p.2))
  else if 0 < p.1.1 0 1 then
    (if sp_dn (sp_nx p.2) 10 = 3 then (sp_go p.1 (2, sp_dn (sp_nx (sp_nx p.2)) (p.1.1 0 1), sp_dn (sp_nx (sp_nx (sp_nx p.2))) 6, 0), sp_nx (sp_nx (sp_nx p.2)))
    else if sp_dn (sp_nx p.2) 10 = 4 then (sp_go p.1 (3, sp_dn (sp_nx (sp_nx p.2)) (p.1.1 0 1), sp_dn (sp_nx (sp_nx (sp_nx p.2))) 6, 1 + sp_dn (sp_nx (sp_nx (sp_nx (sp_nx p.2)))) 3), sp_nx (sp_nx (sp_nx (sp_nx p.2))))
    else (sp_go p.1 (4, sp_dn (sp_nx (sp_nx p.2)) (p.1.1 0 1), 0, 0), sp_nx (sp_nx p.2)))
  else (p.1, sp_nx p.2)
def ma_v4 (a b c d : Int32) (i : Nat) : Int32 := if i = 0 then a else if i = 1 then b else if i = 2 then c else d
section
variable {h : pb_HP} {N : Nat}
/-- the course with its seed -/
def ma_Cs (h : pb_HP) (p : ma_S × Int32) : Prop := ma_H h ∧ ma_C h p.1 ∧ pb_I h 200 8 = p.2
def ma_Ds (h : pb_HP) (p : ma_S × Int32) : Prop := ma_H h ∧ ma_D h p.1 ∧ pb_I h 217 42 = p.2
theorem ma_C_sd {S : ma_S} (C : ma_C h S) (v : Int32) : ma_C (pb_pI h 200 8 v) S := ⟨ma_V_o C.1 (by decide) _ _, C.2.1, C.2.2.1, C.2.2.2.1, C.2.2.2.2⟩
theorem ma_D_sd {S : ma_S} (D : ma_D h S) (v : Int32) : ma_D (pb_pI h 217 42 v) S := by
  obtain ⟨M, c1, c2, c3, c4, K0, ⟨k, hk, ek, T⟩, FK⟩ := D
  exact ⟨ma_M_o M (.inl ⟨rfl, by decide, by decide⟩) _, c1, c2, c3, c4, K0, ⟨k, hk, ek, ma_T_e T (by rw [ma_I_pI, if_neg (by decide)])⟩, FK⟩
theorem c_40 {S : ma_S} {x : Int32} (C : ma_Cs h (S, x)) {n : Nat} (h0 : 0 < n) (hn : n < 2 ^ 31) : f_40 h 200 (nI n) = some (nI (sp_dn (sp_nx x) n), pb_pI h 200 8 (sp_nx x)) ∧ ma_Cs (pb_pI h 200 8 (sp_nx x)) (S, sp_nx x) ∧ ma_q h (pb_pI h 200 8 (sp_nx x)) := by
  obtain ⟨H, C1, C2⟩ := C
  dsimp only at C1 C2
  refine ⟨?_, ⟨H, ma_C_sd C1 _, rfl⟩, ma_q_pI (ma_q_r h) (by decide) _ _⟩
  have e : pb_I (pb_pI h 200 8 (sp_nx x)) 200 8 = sp_nx x := rfl
  unfold f_40
  rw [if_pos (mi_200 H), C2, if_neg (nI_nle h0 hn), if_pos (nI_ne0 h0 hn)]
  rw [show x * 1103515245 + 12345 = sp_nx x from rfl, e, ma_drw _ h0 hn]
theorem m_256 {S : ma_S} {x : Int32} (C : ma_Ds h (S, x)) {n : Nat} (h0 : 0 < n) (hn : n < 2 ^ 31) : f_256 h 217 (nI n) = some (nI (sp_dn (sp_nx x) n), pb_pI h 217 42 (sp_nx x)) ∧ ma_Ds (pb_pI h 217 42 (sp_nx x)) (S, sp_nx x) ∧ ma_q h (pb_pI h 217 42 (sp_nx x)) := by
  obtain ⟨H, C1, C2⟩ := C
  dsimp only at C1 C2
  refine ⟨?_, ⟨H, ma_D_sd C1 _, rfl⟩, ma_q_pI (ma_q_r h) (by decide) _ _⟩
  have e : pb_I (pb_pI h 217 42 (sp_nx x)) 217 42 = sp_nx x := rfl
  unfold f_256
  rw [if_pos (mi_217 H), C2, if_pos (nI_ne0 h0 hn)]
  rw [show x * 1103515245 + 12345 = sp_nx x from rfl, e, ma_drw _ h0 hn]
/-- a deed, whether it may be or not -/
theorem c_go {S : ma_S} {x : Int32} {d : ma_dd} {a b c e : Int32} (C : ma_Cs h (S, x)) (O : ma_SO S) (hd : ma_dr d (ma_v4 a b c e)) (hN : 3000 < N) : ∃ r g, f_31 N h 200 a b c e = some (r, g) ∧ ma_Cs g (sp_go S d, x) ∧ ma_q h g ∧ ma_SO (sp_go S d) := by
  obtain ⟨H, C1, C2⟩ := C
  dsimp only at C1 C2
  have z := c_31 (N := N) H C1 O hd hN
  unfold sp_go
  cases q : sp_act S d with
  | none => exact ⟨0, h, z.1 q, ⟨H, C1, C2⟩, ma_q_r h, O⟩
  | some S2 =>
    obtain ⟨g, a1, a2, a3⟩ := z.2 S2 q
    refine ⟨1, g, a1, ⟨ma_H_fr H a2, a3, ?_⟩, ma_cq a2, ma_SO_act hd O q⟩
    rw [a2.2.2 200 8 (by decide) (by decide)]; exact C2
theorem m_go {S : ma_S} {x : Int32} {d : ma_dd} {a b c e : Int32} (C : ma_Ds h (S, x)) (O : ma_SO S) (hd : ma_dr d (ma_v4 a b c e)) (hN : 3000 < N) : ∃ r g, f_220 N h 217 a b c e = some (r, g) ∧ ma_Ds g (sp_go S d, x) ∧ ma_q h g := by
  obtain ⟨H, C1, C2⟩ := C
  dsimp only at C1 C2
  have z := m_220 (N := N) H C1 O hd hN
  unfold sp_go
  cases q : sp_act S d with
  | none => exact ⟨0, h, z.1 q, ⟨H, C1, C2⟩, ma_q_r h⟩
  | some S2 =>
    obtain ⟨g, a1, a2, a3⟩ := z.2 S2 q
    refine ⟨1, g, a1, ⟨ma_H_fr H a2, a3, ?_⟩, ma_dq a2⟩
    rw [a2.2.2 217 42 (by decide) (by decide)]; exact C2
end
theorem sp_yr_men (K : ma_K) (n : Nat) : sp_yr K n 0 0 = K 0 0 ∧ sp_yr K n 0 1 = K 0 1 := ⟨rfl, rfl⟩
section
variable {h : pb_HP} {N : Nat}
theorem ma_dr5 {q : Nat} (h : q = 5 ∨ q = 6) {v : Nat → Int32} (e : v 0 = nI q) : ma_dr (q, 0, 0, 0) v := by
  refine ⟨e, ?_, fun z => ?_, fun z => ?_, fun z => ?_⟩ <;> dsimp only at * <;> omega
/-- the kinds of the lots -/
theorem ma_lot {w : Nat} (hw : w < 10) : pb_S1.getD w 0 = nI (if 7 < w then 6 else if 5 < w then 5 else if w = 5 then 4 else if w = 4 then 3 else if w = 3 then 2 else if w = 2 then 1 else 0) := by
  have : ∀ w : Fin 10, pb_S1.getD w.val 0 = nI (if 7 < w.val then 6 else if 5 < w.val then 5 else if w.val = 5 then 4 else if w.val = 4 then 3 else if w.val = 3 then 2 else if w.val = 2 then 1 else 0) := by decide +kernel
  exact this ⟨w, hw⟩
theorem c_41 {p : ma_S × Int32} (C : ma_Cs h p) (O : ma_SO p.1) (hN : 3000 < N) : ∃ g, f_41 N h 200 = some g ∧ ma_Cs g (sp_dw p) ∧ ma_q h g ∧ ma_SO (sp_dw p).1 := by
  obtain ⟨S, x⟩ := p
  dsimp only at O
  have hme := O.1.1
  have hch := O.1.2.1
  have H := C.1
  have s1 : (Int32.ofNat pb_S1.length) = nI 10 := rfl
  have s2 : pb_S1.length = 10 := rfl
  obtain ⟨a1, C1, f1⟩ := c_40 C (n := 10) (by decide) (by decide)
  have H1 := C1.1
  obtain ⟨w, hw⟩ : ∃ w, w = sp_dn (sp_nx x) 10 := ⟨_, rfl⟩
  have hw10 : w < 10 := by rw [hw]; exact sp_dn_lt _ (by decide)
  unfold sp_dw
  dsimp only
  rw [← hw] at a1 ⊢
  have hin : pb_in (nI w) pb_S1.length := ⟨nI_pos' (by omega), by rw [nI_clamp (by omega), s2]; exact hw10⟩
  have lot := ma_lot hw10
  have m0 : pb_I (pb_pI h 200 8 (sp_nx x)) 201 0 = nI (S.1 0 0) := C1.2.1.1.2.1
  have m1 : pb_I (pb_pI h 200 8 (sp_nx x)) 201 1 = nI (S.1 0 1) := C1.2.1.1.2.2.1
  have hcl : w = 0 ∨ w = 1 ∨ w = 2 ∨ w = 3 ∨ w = 4 ∨ w = 5 ∨ w = 6 ∨ w = 7 ∨ w = 8 ∨ w = 9 := by omega
  simp only [f_41, if_pos (mi_200 H), s1, a1, Option.bind_some, if_pos hin, nI_clamp (show w < 2 ^ 31 by omega)]
  clear lot hin a1
  rcases hcl with q | q | q | q | q | q | q | q | q | q <;> rw [q] <;> clear q hw hw10
  · by_cases hp : 0 < S.1 0 0
    · obtain ⟨a2, C2, f2⟩ := c_40 C1 (n := S.1 0 0) hp (by omega)
      have H2 := C2.1
      have d1 := sp_dn_lt (sp_nx (sp_nx x)) hp
      obtain ⟨a3, C3, f3⟩ := c_40 C2 (n := 6) (by decide) (by decide)
      have H3 := C3.1
      have d2 := sp_dn_lt (sp_nx (sp_nx (sp_nx x))) (n := 6) (by decide)
      have a3 : f_40 _ 200 6 = _ := a3
      obtain ⟨r, g, b1, b2, b3, b4⟩ := c_go (N := N) (d := (0, sp_dn (sp_nx (sp_nx x)) (S.1 0 0), sp_dn (sp_nx (sp_nx (sp_nx x))) 6, 0)) (a := nI 0) (b := nI (sp_dn (sp_nx (sp_nx x)) (S.1 0 0))) (c := nI (sp_dn (sp_nx (sp_nx (sp_nx x))) 6)) (e := -1) C3 O ⟨rfl, by dsimp only; omega, fun _ => ⟨rfl, by dsimp only; omega⟩, fun _ => ⟨rfl, d2⟩, fun z => absurd z (by dsimp only; omega)⟩ hN
      refine ⟨g, ?_, ?_, ma_q_t f1 (ma_q_t (ma_q_t f2 f3) b3), ?_⟩
      · simp only [(show pb_S1.getD 0 0 = nI 0 from rfl), ↓reduceIte, (show (nI 0 = (0 : Int32)) = True from eq_true rfl), (show (nI 0 = (1 : Int32)) = False from eq_false (by decide)), (show (nI 0 = (2 : Int32)) = False from eq_false (by decide)), (show (nI 0 = (3 : Int32)) = False from eq_false (by decide)), (show (nI 0 = (4 : Int32)) = False from eq_false (by decide)), (show (nI 0 = (5 : Int32)) = False from eq_false (by decide)), (show (nI 0 = (6 : Int32)) = False from eq_false (by decide)), f_41_29, f_41_46, f_41_69, f_41_116, f_41_134, if_pos (mi_200 H1), mr_200_0 H1, Option.bind_some, if_pos (mi_201 H1), m0, m1, i10, eq_self, not_true_eq_false, not_false_eq_true]
        simp only [if_neg (nI_nle hp (show S.1 0 0 < 2 ^ 31 by omega)), a2, a3, if_pos (mi_200 H2), if_pos (mi_200 H3), Option.bind_some, b1]
      · simp only [(show (5 < 0) = False from eq_false (by decide)), (show (7 < 0) = False from eq_false (by decide)), (show (0 < 3) = True from eq_true (by decide)), (show (0 = 2) = False from eq_false (by decide)), (show (0 = 3) = False from eq_false (by decide)), (show (0 = 4) = False from eq_false (by decide)), ↓reduceIte, if_pos hp]; exact b2
      · simp only [(show (5 < 0) = False from eq_false (by decide)), (show (7 < 0) = False from eq_false (by decide)), (show (0 < 3) = True from eq_true (by decide)), (show (0 = 2) = False from eq_false (by decide)), (show (0 = 3) = False from eq_false (by decide)), (show (0 = 4) = False from eq_false (by decide)), ↓reduceIte, if_pos hp]; exact b4
    · have hz : S.1 0 0 = 0 := by omega
      refine ⟨pb_pI h 200 8 (sp_nx x), ?_, ?_, f1, ?_⟩
      · simp only [(show pb_S1.getD 0 0 = nI 0 from rfl), ↓reduceIte, (show (nI 0 = (0 : Int32)) = True from eq_true rfl), (show (nI 0 = (1 : Int32)) = False from eq_false (by decide)), (show (nI 0 = (2 : Int32)) = False from eq_false (by decide)), (show (nI 0 = (3 : Int32)) = False from eq_false (by decide)), (show (nI 0 = (4 : Int32)) = False from eq_false (by decide)), (show (nI 0 = (5 : Int32)) = False from eq_false (by decide)), (show (nI 0 = (6 : Int32)) = False from eq_false (by decide)), f_41_29, f_41_46, f_41_69, f_41_116, f_41_134, if_pos (mi_200 H1), mr_200_0 H1, Option.bind_some, if_pos (mi_201 H1), m0, m1, i10, eq_self, not_true_eq_false, not_false_eq_true]
        rw [if_pos (by rw [hz]; decide)]
      · simp only [(show (5 < 0) = False from eq_false (by decide)), (show (7 < 0) = False from eq_false (by decide)), (show (0 < 3) = True from eq_true (by decide)), (show (0 = 2) = False from eq_false (by decide)), (show (0 = 3) = False from eq_false (by decide)), (show (0 = 4) = False from eq_false (by decide)), ↓reduceIte, if_neg hp]; exact C1
      · simp only [(show (5 < 0) = False from eq_false (by decide)), (show (7 < 0) = False from eq_false (by decide)), (show (0 < 3) = True from eq_true (by decide)), (show (0 = 2) = False from eq_false (by decide)), (show (0 = 3) = False from eq_false (by decide)), (show (0 = 4) = False from eq_false (by decide)), ↓reduceIte, if_neg hp]; exact O
  · by_cases hp : 0 < S.1 0 0
    · obtain ⟨a2, C2, f2⟩ := c_40 C1 (n := S.1 0 0) hp (by omega)
      have H2 := C2.1
      have d1 := sp_dn_lt (sp_nx (sp_nx x)) hp
      obtain ⟨a3, C3, f3⟩ := c_40 C2 (n := 6) (by decide) (by decide)
      have H3 := C3.1
      have d2 := sp_dn_lt (sp_nx (sp_nx (sp_nx x))) (n := 6) (by decide)
      have a3 : f_40 _ 200 6 = _ := a3
      obtain ⟨r, g, b1, b2, b3, b4⟩ := c_go (N := N) (d := (0, sp_dn (sp_nx (sp_nx x)) (S.1 0 0), sp_dn (sp_nx (sp_nx (sp_nx x))) 6, 0)) (a := nI 0) (b := nI (sp_dn (sp_nx (sp_nx x)) (S.1 0 0))) (c := nI (sp_dn (sp_nx (sp_nx (sp_nx x))) 6)) (e := -1) C3 O ⟨rfl, by dsimp only; omega, fun _ => ⟨rfl, by dsimp only; omega⟩, fun _ => ⟨rfl, d2⟩, fun z => absurd z (by dsimp only; omega)⟩ hN
      refine ⟨g, ?_, ?_, ma_q_t f1 (ma_q_t (ma_q_t f2 f3) b3), ?_⟩
      · simp only [(show pb_S1.getD 1 0 = nI 0 from rfl), ↓reduceIte, (show (nI 0 = (0 : Int32)) = True from eq_true rfl), (show (nI 0 = (1 : Int32)) = False from eq_false (by decide)), (show (nI 0 = (2 : Int32)) = False from eq_false (by decide)), (show (nI 0 = (3 : Int32)) = False from eq_false (by decide)), (show (nI 0 = (4 : Int32)) = False from eq_false (by decide)), (show (nI 0 = (5 : Int32)) = False from eq_false (by decide)), (show (nI 0 = (6 : Int32)) = False from eq_false (by decide)), f_41_29, f_41_46, f_41_69, f_41_116, f_41_134, if_pos (mi_200 H1), mr_200_0 H1, Option.bind_some, if_pos (mi_201 H1), m0, m1, i10, eq_self, not_true_eq_false, not_false_eq_true]
        simp only [if_neg (nI_nle hp (show S.1 0 0 < 2 ^ 31 by omega)), a2, a3, if_pos (mi_200 H2), if_pos (mi_200 H3), Option.bind_some, b1]
      · simp only [(show (5 < 1) = False from eq_false (by decide)), (show (7 < 1) = False from eq_false (by decide)), (show (1 < 3) = True from eq_true (by decide)), (show (1 = 2) = False from eq_false (by decide)), (show (1 = 3) = False from eq_false (by decide)), (show (1 = 4) = False from eq_false (by decide)), ↓reduceIte, if_pos hp]; exact b2
      · simp only [(show (5 < 1) = False from eq_false (by decide)), (show (7 < 1) = False from eq_false (by decide)), (show (1 < 3) = True from eq_true (by decide)), (show (1 = 2) = False from eq_false (by decide)), (show (1 = 3) = False from eq_false (by decide)), (show (1 = 4) = False from eq_false (by decide)), ↓reduceIte, if_pos hp]; exact b4
    · have hz : S.1 0 0 = 0 := by omega
      refine ⟨pb_pI h 200 8 (sp_nx x), ?_, ?_, f1, ?_⟩
      · simp only [(show pb_S1.getD 1 0 = nI 0 from rfl), ↓reduceIte, (show (nI 0 = (0 : Int32)) = True from eq_true rfl), (show (nI 0 = (1 : Int32)) = False from eq_false (by decide)), (show (nI 0 = (2 : Int32)) = False from eq_false (by decide)), (show (nI 0 = (3 : Int32)) = False from eq_false (by decide)), (show (nI 0 = (4 : Int32)) = False from eq_false (by decide)), (show (nI 0 = (5 : Int32)) = False from eq_false (by decide)), (show (nI 0 = (6 : Int32)) = False from eq_false (by decide)), f_41_29, f_41_46, f_41_69, f_41_116, f_41_134, if_pos (mi_200 H1), mr_200_0 H1, Option.bind_some, if_pos (mi_201 H1), m0, m1, i10, eq_self, not_true_eq_false, not_false_eq_true]
        rw [if_pos (by rw [hz]; decide)]
      · simp only [(show (5 < 1) = False from eq_false (by decide)), (show (7 < 1) = False from eq_false (by decide)), (show (1 < 3) = True from eq_true (by decide)), (show (1 = 2) = False from eq_false (by decide)), (show (1 = 3) = False from eq_false (by decide)), (show (1 = 4) = False from eq_false (by decide)), ↓reduceIte, if_neg hp]; exact C1
      · simp only [(show (5 < 1) = False from eq_false (by decide)), (show (7 < 1) = False from eq_false (by decide)), (show (1 < 3) = True from eq_true (by decide)), (show (1 = 2) = False from eq_false (by decide)), (show (1 = 3) = False from eq_false (by decide)), (show (1 = 4) = False from eq_false (by decide)), ↓reduceIte, if_neg hp]; exact O
  · by_cases hp : 0 < S.1 0 0
    · obtain ⟨a2, C2, f2⟩ := c_40 C1 (n := S.1 0 0) hp (by omega)
      have H2 := C2.1
      have d1 := sp_dn_lt (sp_nx (sp_nx x)) hp
      obtain ⟨a3, C3, f3⟩ := c_40 C2 (n := 6) (by decide) (by decide)
      have H3 := C3.1
      have d2 := sp_dn_lt (sp_nx (sp_nx (sp_nx x))) (n := 6) (by decide)
      have a3 : f_40 _ 200 6 = _ := a3
      obtain ⟨r, g, b1, b2, b3, b4⟩ := c_go (N := N) (d := (1, sp_dn (sp_nx (sp_nx x)) (S.1 0 0), sp_dn (sp_nx (sp_nx (sp_nx x))) 6, 0)) (a := nI 1) (b := nI (sp_dn (sp_nx (sp_nx x)) (S.1 0 0))) (c := nI (sp_dn (sp_nx (sp_nx (sp_nx x))) 6)) (e := -1) C3 O ⟨rfl, by dsimp only; omega, fun _ => ⟨rfl, by dsimp only; omega⟩, fun _ => ⟨rfl, d2⟩, fun z => absurd z (by dsimp only; omega)⟩ hN
      refine ⟨g, ?_, ?_, ma_q_t f1 (ma_q_t (ma_q_t f2 f3) b3), ?_⟩
      · simp only [(show pb_S1.getD 2 0 = nI 1 from rfl), ↓reduceIte, (show (nI 1 = (0 : Int32)) = False from eq_false (by decide)), (show (nI 1 = (1 : Int32)) = True from eq_true rfl), (show (nI 1 = (2 : Int32)) = False from eq_false (by decide)), (show (nI 1 = (3 : Int32)) = False from eq_false (by decide)), (show (nI 1 = (4 : Int32)) = False from eq_false (by decide)), (show (nI 1 = (5 : Int32)) = False from eq_false (by decide)), (show (nI 1 = (6 : Int32)) = False from eq_false (by decide)), f_41_29, f_41_46, f_41_69, f_41_116, f_41_134, if_pos (mi_200 H1), mr_200_0 H1, Option.bind_some, if_pos (mi_201 H1), m0, m1, i10, eq_self, not_true_eq_false, not_false_eq_true]
        simp only [if_neg (nI_nle hp (show S.1 0 0 < 2 ^ 31 by omega)), a2, a3, if_pos (mi_200 H2), if_pos (mi_200 H3), Option.bind_some, b1]
      · simp only [(show (5 < 2) = False from eq_false (by decide)), (show (7 < 2) = False from eq_false (by decide)), (show (2 < 3) = True from eq_true (by decide)), (show (2 = 2) = True from eq_true (by decide)), (show (2 = 3) = False from eq_false (by decide)), (show (2 = 4) = False from eq_false (by decide)), ↓reduceIte, if_pos hp]; exact b2
      · simp only [(show (5 < 2) = False from eq_false (by decide)), (show (7 < 2) = False from eq_false (by decide)), (show (2 < 3) = True from eq_true (by decide)), (show (2 = 2) = True from eq_true (by decide)), (show (2 = 3) = False from eq_false (by decide)), (show (2 = 4) = False from eq_false (by decide)), ↓reduceIte, if_pos hp]; exact b4
    · have hz : S.1 0 0 = 0 := by omega
      refine ⟨pb_pI h 200 8 (sp_nx x), ?_, ?_, f1, ?_⟩
      · simp only [(show pb_S1.getD 2 0 = nI 1 from rfl), ↓reduceIte, (show (nI 1 = (0 : Int32)) = False from eq_false (by decide)), (show (nI 1 = (1 : Int32)) = True from eq_true rfl), (show (nI 1 = (2 : Int32)) = False from eq_false (by decide)), (show (nI 1 = (3 : Int32)) = False from eq_false (by decide)), (show (nI 1 = (4 : Int32)) = False from eq_false (by decide)), (show (nI 1 = (5 : Int32)) = False from eq_false (by decide)), (show (nI 1 = (6 : Int32)) = False from eq_false (by decide)), f_41_29, f_41_46, f_41_69, f_41_116, f_41_134, if_pos (mi_200 H1), mr_200_0 H1, Option.bind_some, if_pos (mi_201 H1), m0, m1, i10, eq_self, not_true_eq_false, not_false_eq_true]
        rw [if_pos (by rw [hz]; decide)]
      · simp only [(show (5 < 2) = False from eq_false (by decide)), (show (7 < 2) = False from eq_false (by decide)), (show (2 < 3) = True from eq_true (by decide)), (show (2 = 2) = True from eq_true (by decide)), (show (2 = 3) = False from eq_false (by decide)), (show (2 = 4) = False from eq_false (by decide)), ↓reduceIte, if_neg hp]; exact C1
      · simp only [(show (5 < 2) = False from eq_false (by decide)), (show (7 < 2) = False from eq_false (by decide)), (show (2 < 3) = True from eq_true (by decide)), (show (2 = 2) = True from eq_true (by decide)), (show (2 = 3) = False from eq_false (by decide)), (show (2 = 4) = False from eq_false (by decide)), ↓reduceIte, if_neg hp]; exact O
  · by_cases hp : 0 < S.1 0 1
    · obtain ⟨a2, C2, f2⟩ := c_40 C1 (n := S.1 0 1) hp (by omega)
      have H2 := C2.1
      have d1 := sp_dn_lt (sp_nx (sp_nx x)) hp
      obtain ⟨a3, C3, f3⟩ := c_40 C2 (n := 6) (by decide) (by decide)
      have H3 := C3.1
      have d2 := sp_dn_lt (sp_nx (sp_nx (sp_nx x))) (n := 6) (by decide)
      have a3 : f_40 _ 200 6 = _ := a3
      obtain ⟨r, g, b1, b2, b3, b4⟩ := c_go (N := N) (d := (2, sp_dn (sp_nx (sp_nx x)) (S.1 0 1), sp_dn (sp_nx (sp_nx (sp_nx x))) 6, 0)) (a := nI 2) (b := nI (sp_dn (sp_nx (sp_nx x)) (S.1 0 1))) (c := nI (sp_dn (sp_nx (sp_nx (sp_nx x))) 6)) (e := -1) C3 O ⟨rfl, by dsimp only; omega, fun _ => ⟨rfl, by dsimp only; omega⟩, fun _ => ⟨rfl, d2⟩, fun z => absurd z (by dsimp only; omega)⟩ hN
      refine ⟨g, ?_, ?_, ma_q_t f1 (ma_q_t (ma_q_t f2 f3) b3), ?_⟩
      · simp only [(show pb_S1.getD 3 0 = nI 2 from rfl), ↓reduceIte, (show (nI 2 = (0 : Int32)) = False from eq_false (by decide)), (show (nI 2 = (1 : Int32)) = False from eq_false (by decide)), (show (nI 2 = (2 : Int32)) = True from eq_true rfl), (show (nI 2 = (3 : Int32)) = False from eq_false (by decide)), (show (nI 2 = (4 : Int32)) = False from eq_false (by decide)), (show (nI 2 = (5 : Int32)) = False from eq_false (by decide)), (show (nI 2 = (6 : Int32)) = False from eq_false (by decide)), f_41_29, f_41_46, f_41_69, f_41_116, f_41_134, if_pos (mi_200 H1), mr_200_0 H1, Option.bind_some, if_pos (mi_201 H1), m0, m1, i10, eq_self, not_true_eq_false, not_false_eq_true]
        simp only [if_neg (nI_nle hp (show S.1 0 1 < 2 ^ 31 by omega)), a2, a3, if_pos (mi_200 H2), if_pos (mi_200 H3), Option.bind_some, b1]
      · simp only [(show (5 < 3) = False from eq_false (by decide)), (show (7 < 3) = False from eq_false (by decide)), (show (3 < 3) = False from eq_false (by decide)), (show (3 = 2) = False from eq_false (by decide)), (show (3 = 3) = True from eq_true (by decide)), (show (3 = 4) = False from eq_false (by decide)), ↓reduceIte, if_pos hp]; exact b2
      · simp only [(show (5 < 3) = False from eq_false (by decide)), (show (7 < 3) = False from eq_false (by decide)), (show (3 < 3) = False from eq_false (by decide)), (show (3 = 2) = False from eq_false (by decide)), (show (3 = 3) = True from eq_true (by decide)), (show (3 = 4) = False from eq_false (by decide)), ↓reduceIte, if_pos hp]; exact b4
    · have hz : S.1 0 1 = 0 := by omega
      refine ⟨pb_pI h 200 8 (sp_nx x), ?_, ?_, f1, ?_⟩
      · simp only [(show pb_S1.getD 3 0 = nI 2 from rfl), ↓reduceIte, (show (nI 2 = (0 : Int32)) = False from eq_false (by decide)), (show (nI 2 = (1 : Int32)) = False from eq_false (by decide)), (show (nI 2 = (2 : Int32)) = True from eq_true rfl), (show (nI 2 = (3 : Int32)) = False from eq_false (by decide)), (show (nI 2 = (4 : Int32)) = False from eq_false (by decide)), (show (nI 2 = (5 : Int32)) = False from eq_false (by decide)), (show (nI 2 = (6 : Int32)) = False from eq_false (by decide)), f_41_29, f_41_46, f_41_69, f_41_116, f_41_134, if_pos (mi_200 H1), mr_200_0 H1, Option.bind_some, if_pos (mi_201 H1), m0, m1, i10, eq_self, not_true_eq_false, not_false_eq_true]
        rw [if_pos (by rw [hz]; decide)]
      · simp only [(show (5 < 3) = False from eq_false (by decide)), (show (7 < 3) = False from eq_false (by decide)), (show (3 < 3) = False from eq_false (by decide)), (show (3 = 2) = False from eq_false (by decide)), (show (3 = 3) = True from eq_true (by decide)), (show (3 = 4) = False from eq_false (by decide)), ↓reduceIte, if_neg hp]; exact C1
      · simp only [(show (5 < 3) = False from eq_false (by decide)), (show (7 < 3) = False from eq_false (by decide)), (show (3 < 3) = False from eq_false (by decide)), (show (3 = 2) = False from eq_false (by decide)), (show (3 = 3) = True from eq_true (by decide)), (show (3 = 4) = False from eq_false (by decide)), ↓reduceIte, if_neg hp]; exact O
  · by_cases hp : 0 < S.1 0 1
    · obtain ⟨a2, C2, f2⟩ := c_40 C1 (n := S.1 0 1) hp (by omega)
      have H2 := C2.1
      have d1 := sp_dn_lt (sp_nx (sp_nx x)) hp
      obtain ⟨a3, C3, f3⟩ := c_40 C2 (n := 6) (by decide) (by decide)
      have H3 := C3.1
      have d2 := sp_dn_lt (sp_nx (sp_nx (sp_nx x))) (n := 6) (by decide)
      have a3 : f_40 _ 200 6 = _ := a3
      obtain ⟨a4, C4, f4⟩ := c_40 C3 (n := 3) (by decide) (by decide)
      have H4 := C4.1
      have d3 := sp_dn_lt (sp_nx (sp_nx (sp_nx (sp_nx x)))) (n := 3) (by decide)
      have a4 : f_40 _ 200 3 = _ := a4
      obtain ⟨r, g, b1, b2, b3, b4⟩ := c_go (N := N) (d := (3, sp_dn (sp_nx (sp_nx x)) (S.1 0 1), sp_dn (sp_nx (sp_nx (sp_nx x))) 6, 1 + sp_dn (sp_nx (sp_nx (sp_nx (sp_nx x)))) 3)) (a := nI 3) (b := nI (sp_dn (sp_nx (sp_nx x)) (S.1 0 1))) (c := nI (sp_dn (sp_nx (sp_nx (sp_nx x))) 6)) (e := nI (1 + sp_dn (sp_nx (sp_nx (sp_nx (sp_nx x)))) 3)) C4 O ⟨rfl, by dsimp only; omega, fun _ => ⟨rfl, by dsimp only; omega⟩, fun _ => ⟨rfl, d2⟩, fun _ => ⟨rfl, by dsimp only; omega⟩⟩ hN
      refine ⟨g, ?_, ?_, ma_q_t f1 (ma_q_t (ma_q_t f2 (ma_q_t f3 f4)) b3), ?_⟩
      · simp only [(show pb_S1.getD 4 0 = nI 3 from rfl), ↓reduceIte, (show (nI 3 = (0 : Int32)) = False from eq_false (by decide)), (show (nI 3 = (1 : Int32)) = False from eq_false (by decide)), (show (nI 3 = (2 : Int32)) = False from eq_false (by decide)), (show (nI 3 = (3 : Int32)) = True from eq_true rfl), (show (nI 3 = (4 : Int32)) = False from eq_false (by decide)), (show (nI 3 = (5 : Int32)) = False from eq_false (by decide)), (show (nI 3 = (6 : Int32)) = False from eq_false (by decide)), f_41_29, f_41_46, f_41_69, f_41_116, f_41_134, if_pos (mi_200 H1), mr_200_0 H1, Option.bind_some, if_pos (mi_201 H1), m0, m1, i10, eq_self, not_true_eq_false, not_false_eq_true]
        simp only [if_neg (nI_nle hp (show S.1 0 1 < 2 ^ 31 by omega)), a2, a3, a4, if_pos (mi_200 H2), if_pos (mi_200 H3), if_pos (mi_200 H4), lG1, Option.bind_some, b1]
      · simp only [(show (5 < 4) = False from eq_false (by decide)), (show (7 < 4) = False from eq_false (by decide)), (show (4 < 3) = False from eq_false (by decide)), (show (4 = 2) = False from eq_false (by decide)), (show (4 = 3) = False from eq_false (by decide)), (show (4 = 4) = True from eq_true (by decide)), ↓reduceIte, if_pos hp]; exact b2
      · simp only [(show (5 < 4) = False from eq_false (by decide)), (show (7 < 4) = False from eq_false (by decide)), (show (4 < 3) = False from eq_false (by decide)), (show (4 = 2) = False from eq_false (by decide)), (show (4 = 3) = False from eq_false (by decide)), (show (4 = 4) = True from eq_true (by decide)), ↓reduceIte, if_pos hp]; exact b4
    · have hz : S.1 0 1 = 0 := by omega
      refine ⟨pb_pI h 200 8 (sp_nx x), ?_, ?_, f1, ?_⟩
      · simp only [(show pb_S1.getD 4 0 = nI 3 from rfl), ↓reduceIte, (show (nI 3 = (0 : Int32)) = False from eq_false (by decide)), (show (nI 3 = (1 : Int32)) = False from eq_false (by decide)), (show (nI 3 = (2 : Int32)) = False from eq_false (by decide)), (show (nI 3 = (3 : Int32)) = True from eq_true rfl), (show (nI 3 = (4 : Int32)) = False from eq_false (by decide)), (show (nI 3 = (5 : Int32)) = False from eq_false (by decide)), (show (nI 3 = (6 : Int32)) = False from eq_false (by decide)), f_41_29, f_41_46, f_41_69, f_41_116, f_41_134, if_pos (mi_200 H1), mr_200_0 H1, Option.bind_some, if_pos (mi_201 H1), m0, m1, i10, eq_self, not_true_eq_false, not_false_eq_true]
        rw [if_pos (by rw [hz]; decide)]
      · simp only [(show (5 < 4) = False from eq_false (by decide)), (show (7 < 4) = False from eq_false (by decide)), (show (4 < 3) = False from eq_false (by decide)), (show (4 = 2) = False from eq_false (by decide)), (show (4 = 3) = False from eq_false (by decide)), (show (4 = 4) = True from eq_true (by decide)), ↓reduceIte, if_neg hp]; exact C1
      · simp only [(show (5 < 4) = False from eq_false (by decide)), (show (7 < 4) = False from eq_false (by decide)), (show (4 < 3) = False from eq_false (by decide)), (show (4 = 2) = False from eq_false (by decide)), (show (4 = 3) = False from eq_false (by decide)), (show (4 = 4) = True from eq_true (by decide)), ↓reduceIte, if_neg hp]; exact O
  · by_cases hp : 0 < S.1 0 1
    · obtain ⟨a2, C2, f2⟩ := c_40 C1 (n := S.1 0 1) hp (by omega)
      have H2 := C2.1
      have d1 := sp_dn_lt (sp_nx (sp_nx x)) hp
      obtain ⟨r, g, b1, b2, b3, b4⟩ := c_go (N := N) (d := (4, sp_dn (sp_nx (sp_nx x)) (S.1 0 1), 0, 0)) (a := nI 4) (b := nI (sp_dn (sp_nx (sp_nx x)) (S.1 0 1))) (c := -1) (e := -1) C2 O ⟨rfl, by dsimp only; omega, fun _ => ⟨rfl, by dsimp only; omega⟩, fun z => absurd z (by dsimp only; omega), fun z => absurd z (by dsimp only; omega)⟩ hN
      refine ⟨g, ?_, ?_, ma_q_t f1 (ma_q_t f2 b3), ?_⟩
      · simp only [(show pb_S1.getD 5 0 = nI 4 from rfl), ↓reduceIte, (show (nI 4 = (0 : Int32)) = False from eq_false (by decide)), (show (nI 4 = (1 : Int32)) = False from eq_false (by decide)), (show (nI 4 = (2 : Int32)) = False from eq_false (by decide)), (show (nI 4 = (3 : Int32)) = False from eq_false (by decide)), (show (nI 4 = (4 : Int32)) = True from eq_true rfl), (show (nI 4 = (5 : Int32)) = False from eq_false (by decide)), (show (nI 4 = (6 : Int32)) = False from eq_false (by decide)), f_41_29, f_41_46, f_41_69, f_41_116, f_41_134, if_pos (mi_200 H1), mr_200_0 H1, Option.bind_some, if_pos (mi_201 H1), m0, m1, i10, eq_self, not_true_eq_false, not_false_eq_true]
        simp only [if_neg (nI_nle hp (show S.1 0 1 < 2 ^ 31 by omega)), a2, if_pos (mi_200 H2), Option.bind_some, b1]
      · simp only [(show (5 < 5) = False from eq_false (by decide)), (show (7 < 5) = False from eq_false (by decide)), (show (5 < 3) = False from eq_false (by decide)), (show (5 = 2) = False from eq_false (by decide)), (show (5 = 3) = False from eq_false (by decide)), (show (5 = 4) = False from eq_false (by decide)), ↓reduceIte, if_pos hp]; exact b2
      · simp only [(show (5 < 5) = False from eq_false (by decide)), (show (7 < 5) = False from eq_false (by decide)), (show (5 < 3) = False from eq_false (by decide)), (show (5 = 2) = False from eq_false (by decide)), (show (5 = 3) = False from eq_false (by decide)), (show (5 = 4) = False from eq_false (by decide)), ↓reduceIte, if_pos hp]; exact b4
    · have hz : S.1 0 1 = 0 := by omega
      refine ⟨pb_pI h 200 8 (sp_nx x), ?_, ?_, f1, ?_⟩
      · simp only [(show pb_S1.getD 5 0 = nI 4 from rfl), ↓reduceIte, (show (nI 4 = (0 : Int32)) = False from eq_false (by decide)), (show (nI 4 = (1 : Int32)) = False from eq_false (by decide)), (show (nI 4 = (2 : Int32)) = False from eq_false (by decide)), (show (nI 4 = (3 : Int32)) = False from eq_false (by decide)), (show (nI 4 = (4 : Int32)) = True from eq_true rfl), (show (nI 4 = (5 : Int32)) = False from eq_false (by decide)), (show (nI 4 = (6 : Int32)) = False from eq_false (by decide)), f_41_29, f_41_46, f_41_69, f_41_116, f_41_134, if_pos (mi_200 H1), mr_200_0 H1, Option.bind_some, if_pos (mi_201 H1), m0, m1, i10, eq_self, not_true_eq_false, not_false_eq_true]
        rw [if_pos (by rw [hz]; decide)]
      · simp only [(show (5 < 5) = False from eq_false (by decide)), (show (7 < 5) = False from eq_false (by decide)), (show (5 < 3) = False from eq_false (by decide)), (show (5 = 2) = False from eq_false (by decide)), (show (5 = 3) = False from eq_false (by decide)), (show (5 = 4) = False from eq_false (by decide)), ↓reduceIte, if_neg hp]; exact C1
      · simp only [(show (5 < 5) = False from eq_false (by decide)), (show (7 < 5) = False from eq_false (by decide)), (show (5 < 3) = False from eq_false (by decide)), (show (5 = 2) = False from eq_false (by decide)), (show (5 = 3) = False from eq_false (by decide)), (show (5 = 4) = False from eq_false (by decide)), ↓reduceIte, if_neg hp]; exact O
  · obtain ⟨r, g, b1, b2, b3, b4⟩ := c_go (N := N) (d := (5, 0, 0, 0)) (a := nI 5) (b := -1) (c := -1) (e := -1) C1 O (ma_dr5 (by decide) rfl) hN
    refine ⟨g, ?_, ?_, ma_q_t f1 b3, ?_⟩
    · simp only [(show pb_S1.getD 6 0 = nI 5 from rfl), ↓reduceIte, (show (nI 5 = (0 : Int32)) = False from eq_false (by decide)), (show (nI 5 = (1 : Int32)) = False from eq_false (by decide)), (show (nI 5 = (2 : Int32)) = False from eq_false (by decide)), (show (nI 5 = (3 : Int32)) = False from eq_false (by decide)), (show (nI 5 = (4 : Int32)) = False from eq_false (by decide)), (show (nI 5 = (5 : Int32)) = True from eq_true rfl), (show (nI 5 = (6 : Int32)) = False from eq_false (by decide)), f_41_29, f_41_46, f_41_69, f_41_116, f_41_134, if_pos (mi_200 H1), mr_200_0 H1, Option.bind_some, if_pos (mi_201 H1), m0, m1, i10, eq_self, not_true_eq_false, not_false_eq_true]
      rw [b1]; rfl
    · exact b2
    · exact b4
  · obtain ⟨r, g, b1, b2, b3, b4⟩ := c_go (N := N) (d := (5, 0, 0, 0)) (a := nI 5) (b := -1) (c := -1) (e := -1) C1 O (ma_dr5 (by decide) rfl) hN
    refine ⟨g, ?_, ?_, ma_q_t f1 b3, ?_⟩
    · simp only [(show pb_S1.getD 7 0 = nI 5 from rfl), ↓reduceIte, (show (nI 5 = (0 : Int32)) = False from eq_false (by decide)), (show (nI 5 = (1 : Int32)) = False from eq_false (by decide)), (show (nI 5 = (2 : Int32)) = False from eq_false (by decide)), (show (nI 5 = (3 : Int32)) = False from eq_false (by decide)), (show (nI 5 = (4 : Int32)) = False from eq_false (by decide)), (show (nI 5 = (5 : Int32)) = True from eq_true rfl), (show (nI 5 = (6 : Int32)) = False from eq_false (by decide)), f_41_29, f_41_46, f_41_69, f_41_116, f_41_134, if_pos (mi_200 H1), mr_200_0 H1, Option.bind_some, if_pos (mi_201 H1), m0, m1, i10, eq_self, not_true_eq_false, not_false_eq_true]
      rw [b1]; rfl
    · exact b2
    · exact b4
  · obtain ⟨r, g, b1, b2, b3, b4⟩ := c_go (N := N) (d := (6, 0, 0, 0)) (a := nI 6) (b := -1) (c := -1) (e := -1) C1 O (ma_dr5 (by decide) rfl) hN
    refine ⟨g, ?_, ?_, ma_q_t f1 b3, ?_⟩
    · simp only [(show pb_S1.getD 8 0 = nI 6 from rfl), ↓reduceIte, (show (nI 6 = (0 : Int32)) = False from eq_false (by decide)), (show (nI 6 = (1 : Int32)) = False from eq_false (by decide)), (show (nI 6 = (2 : Int32)) = False from eq_false (by decide)), (show (nI 6 = (3 : Int32)) = False from eq_false (by decide)), (show (nI 6 = (4 : Int32)) = False from eq_false (by decide)), (show (nI 6 = (5 : Int32)) = False from eq_false (by decide)), (show (nI 6 = (6 : Int32)) = True from eq_true rfl), f_41_29, f_41_46, f_41_69, f_41_116, f_41_134, if_pos (mi_200 H1), mr_200_0 H1, Option.bind_some, if_pos (mi_201 H1), m0, m1, i10, eq_self, not_true_eq_false, not_false_eq_true]
      rw [b1]; rfl
    · exact b2
    · exact b4
  · obtain ⟨r, g, b1, b2, b3, b4⟩ := c_go (N := N) (d := (6, 0, 0, 0)) (a := nI 6) (b := -1) (c := -1) (e := -1) C1 O (ma_dr5 (by decide) rfl) hN
    refine ⟨g, ?_, ?_, ma_q_t f1 b3, ?_⟩
    · simp only [(show pb_S1.getD 9 0 = nI 6 from rfl), ↓reduceIte, (show (nI 6 = (0 : Int32)) = False from eq_false (by decide)), (show (nI 6 = (1 : Int32)) = False from eq_false (by decide)), (show (nI 6 = (2 : Int32)) = False from eq_false (by decide)), (show (nI 6 = (3 : Int32)) = False from eq_false (by decide)), (show (nI 6 = (4 : Int32)) = False from eq_false (by decide)), (show (nI 6 = (5 : Int32)) = False from eq_false (by decide)), (show (nI 6 = (6 : Int32)) = True from eq_true rfl), f_41_29, f_41_46, f_41_69, f_41_116, f_41_134, if_pos (mi_200 H1), mr_200_0 H1, Option.bind_some, if_pos (mi_201 H1), m0, m1, i10, eq_self, not_true_eq_false, not_false_eq_true]
      rw [b1]; rfl
    · exact b2
    · exact b4
theorem ma_fo_s {A : Type} (g : Nat → A → A) (n : Nat) (a : A) : ma_fo g (n + 1) a = g n (ma_fo g n a) := rfl
theorem sp_go_SO {S : ma_S} {d : ma_dd} {v : Nat → Int32} (hd : ma_dr d v) (O : ma_SO S) : ma_SO (sp_go S d) := by
  unfold sp_go
  cases q : sp_act S d with
  | none => exact O
  | some S2 => exact ma_SO_act hd O q
theorem ma_dr_tr {q a t u : Nat} (h1 : q ≤ 6) (h2 : a < 6) (h3 : t < 6) (h4 : u ≤ 9) : ma_dr (q, a, t, u) (ma_v4 (nI q) (nI a) (nI t) (nI u)) := ⟨rfl, h1, fun _ => ⟨rfl, h2⟩, fun _ => ⟨rfl, h3⟩, fun _ => ⟨rfl, h4⟩⟩
theorem sp_dw_SO {p : ma_S × Int32} (O : ma_SO p.1) : ma_SO (sp_dw p).1 := by
  have hme := O.1.1
  have hch := O.1.2.1
  have d6 := sp_dn_lt (sp_nx (sp_nx (sp_nx p.2))) (n := 6) (by decide)
  have d3 := sp_dn_lt (sp_nx (sp_nx (sp_nx (sp_nx p.2)))) (n := 3) (by decide)
  unfold sp_dw
  split
  · split <;> exact sp_go_SO (ma_dr_tr (by decide) (by decide) (by decide) (by decide)) O
  · split
    · split
      · rename_i hp
        have dm := sp_dn_lt (sp_nx (sp_nx p.2)) hp
        split <;> exact sp_go_SO (ma_dr_tr (by decide) (by omega) d6 (by decide)) O
      · exact O
    · split
      · rename_i hp
        have dm := sp_dn_lt (sp_nx (sp_nx p.2)) hp
        split
        · exact sp_go_SO (ma_dr_tr (by decide) (by omega) d6 (by decide)) O
        · split
          · exact sp_go_SO (ma_dr_tr (by decide) (by omega) d6 (by omega)) O
          · exact sp_go_SO (ma_dr_tr (by decide) (by omega) (by decide) (by decide)) O
      · exact O
theorem m_257 {p : ma_S × Int32} (C : ma_Ds h p) (O : ma_SO p.1) (hN : 3000 < N) : ∃ g, f_257 N h 217 = some g ∧ ma_Ds g (sp_dw p) ∧ ma_q h g := by
  obtain ⟨S, x⟩ := p
  dsimp only at O
  have hme := O.1.1
  have hch := O.1.2.1
  have H := C.1
  obtain ⟨a1, C1, f1⟩ := m_256 C (n := 10) (by decide) (by decide)
  have a1 : f_256 h 217 10 = _ := a1
  have H1 := C1.1
  obtain ⟨w, hw⟩ : ∃ w, w = sp_dn (sp_nx x) 10 := ⟨_, rfl⟩
  have hw10 : w < 10 := by rw [hw]; exact sp_dn_lt _ (by decide)
  unfold sp_dw
  dsimp only
  rw [← hw] at a1 ⊢
  have m0 : pb_I (pb_pI h 217 42 (sp_nx x)) 217 24 = nI (S.1 0 0) := C1.2.1.1.1
  have m1 : pb_I (pb_pI h 217 42 (sp_nx x)) 217 25 = nI (S.1 0 1) := C1.2.1.1.2.1
  have hcl : w = 0 ∨ w = 1 ∨ w = 2 ∨ w = 3 ∨ w = 4 ∨ w = 5 ∨ w = 6 ∨ w = 7 ∨ w = 8 ∨ w = 9 := by omega
  simp only [f_257, if_pos (mi_217 H), a1, Option.bind_some]
  clear a1
  rcases hcl with q | q | q | q | q | q | q | q | q | q <;> rw [q] <;> clear q hw hw10
  · by_cases hp : 0 < S.1 0 0
    · obtain ⟨a2, C2, f2⟩ := m_256 C1 (n := S.1 0 0) hp (by omega)
      have H2 := C2.1
      have d1 := sp_dn_lt (sp_nx (sp_nx x)) hp
      obtain ⟨a3, C3, f3⟩ := m_256 C2 (n := 6) (by decide) (by decide)
      have H3 := C3.1
      have d2 := sp_dn_lt (sp_nx (sp_nx (sp_nx x))) (n := 6) (by decide)
      have a3 : f_256 _ 217 6 = _ := a3
      obtain ⟨r, g, b1, b2, b3⟩ := m_go (N := N) (d := (0, sp_dn (sp_nx (sp_nx x)) (S.1 0 0), sp_dn (sp_nx (sp_nx (sp_nx x))) 6, 0)) (a := 0) (b := nI (sp_dn (sp_nx (sp_nx x)) (S.1 0 0))) (c := nI (sp_dn (sp_nx (sp_nx (sp_nx x))) 6)) (e := -1) C3 O ⟨rfl, by dsimp only; omega, fun _ => ⟨rfl, by dsimp only; omega⟩, fun _ => ⟨rfl, d2⟩, fun z => absurd z (by dsimp only; omega)⟩ hN
      refine ⟨g, ?_, ?_, ma_q_t f1 (ma_q_t (ma_q_t f2 f3) b3)⟩
      · simp only [↓reduceIte, (show (nI 0 ≤ (5 : Int32)) = True from eq_true (by decide)), (show (nI 0 ≤ (7 : Int32)) = True from eq_true (by decide)), (show ((3 : Int32) ≤ nI 0) = False from eq_false (by decide)), (show ((5 : Int32) ≤ nI 0) = False from eq_false (by decide)), (show (nI 0 = (2 : Int32)) = False from eq_false (by decide)), (show (nI 0 = (3 : Int32)) = False from eq_false (by decide)), (show (nI 0 = (4 : Int32)) = False from eq_false (by decide)), f_257_25, f_257_67, f_257_113, f_257_134, f_257_152, if_pos (mi_217 H1), m0, m1, not_true_eq_false, not_false_eq_true]
        simp only [if_neg (nI_nle hp (show S.1 0 0 < 2 ^ 31 by omega)), a2, a3, if_pos (mi_217 H2), if_pos (mi_217 H3), Option.bind_some, b1]
      · simp only [(show (5 < 0) = False from eq_false (by decide)), (show (7 < 0) = False from eq_false (by decide)), (show (0 < 3) = True from eq_true (by decide)), (show (0 = 2) = False from eq_false (by decide)), (show (0 = 3) = False from eq_false (by decide)), (show (0 = 4) = False from eq_false (by decide)), ↓reduceIte, if_pos hp]; exact b2
    · have hz : S.1 0 0 = 0 := by omega
      refine ⟨pb_pI h 217 42 (sp_nx x), ?_, ?_, f1⟩
      · simp only [↓reduceIte, (show (nI 0 ≤ (5 : Int32)) = True from eq_true (by decide)), (show (nI 0 ≤ (7 : Int32)) = True from eq_true (by decide)), (show ((3 : Int32) ≤ nI 0) = False from eq_false (by decide)), (show ((5 : Int32) ≤ nI 0) = False from eq_false (by decide)), (show (nI 0 = (2 : Int32)) = False from eq_false (by decide)), (show (nI 0 = (3 : Int32)) = False from eq_false (by decide)), (show (nI 0 = (4 : Int32)) = False from eq_false (by decide)), f_257_25, f_257_67, f_257_113, f_257_134, f_257_152, if_pos (mi_217 H1), m0, m1, not_true_eq_false, not_false_eq_true]
        rw [if_pos (by rw [hz]; decide)]
      · simp only [(show (5 < 0) = False from eq_false (by decide)), (show (7 < 0) = False from eq_false (by decide)), (show (0 < 3) = True from eq_true (by decide)), (show (0 = 2) = False from eq_false (by decide)), (show (0 = 3) = False from eq_false (by decide)), (show (0 = 4) = False from eq_false (by decide)), ↓reduceIte, if_neg hp]; exact C1
  · by_cases hp : 0 < S.1 0 0
    · obtain ⟨a2, C2, f2⟩ := m_256 C1 (n := S.1 0 0) hp (by omega)
      have H2 := C2.1
      have d1 := sp_dn_lt (sp_nx (sp_nx x)) hp
      obtain ⟨a3, C3, f3⟩ := m_256 C2 (n := 6) (by decide) (by decide)
      have H3 := C3.1
      have d2 := sp_dn_lt (sp_nx (sp_nx (sp_nx x))) (n := 6) (by decide)
      have a3 : f_256 _ 217 6 = _ := a3
      obtain ⟨r, g, b1, b2, b3⟩ := m_go (N := N) (d := (0, sp_dn (sp_nx (sp_nx x)) (S.1 0 0), sp_dn (sp_nx (sp_nx (sp_nx x))) 6, 0)) (a := 0) (b := nI (sp_dn (sp_nx (sp_nx x)) (S.1 0 0))) (c := nI (sp_dn (sp_nx (sp_nx (sp_nx x))) 6)) (e := -1) C3 O ⟨rfl, by dsimp only; omega, fun _ => ⟨rfl, by dsimp only; omega⟩, fun _ => ⟨rfl, d2⟩, fun z => absurd z (by dsimp only; omega)⟩ hN
      refine ⟨g, ?_, ?_, ma_q_t f1 (ma_q_t (ma_q_t f2 f3) b3)⟩
      · simp only [↓reduceIte, (show (nI 1 ≤ (5 : Int32)) = True from eq_true (by decide)), (show (nI 1 ≤ (7 : Int32)) = True from eq_true (by decide)), (show ((3 : Int32) ≤ nI 1) = False from eq_false (by decide)), (show ((5 : Int32) ≤ nI 1) = False from eq_false (by decide)), (show (nI 1 = (2 : Int32)) = False from eq_false (by decide)), (show (nI 1 = (3 : Int32)) = False from eq_false (by decide)), (show (nI 1 = (4 : Int32)) = False from eq_false (by decide)), f_257_25, f_257_67, f_257_113, f_257_134, f_257_152, if_pos (mi_217 H1), m0, m1, not_true_eq_false, not_false_eq_true]
        simp only [if_neg (nI_nle hp (show S.1 0 0 < 2 ^ 31 by omega)), a2, a3, if_pos (mi_217 H2), if_pos (mi_217 H3), Option.bind_some, b1]
      · simp only [(show (5 < 1) = False from eq_false (by decide)), (show (7 < 1) = False from eq_false (by decide)), (show (1 < 3) = True from eq_true (by decide)), (show (1 = 2) = False from eq_false (by decide)), (show (1 = 3) = False from eq_false (by decide)), (show (1 = 4) = False from eq_false (by decide)), ↓reduceIte, if_pos hp]; exact b2
    · have hz : S.1 0 0 = 0 := by omega
      refine ⟨pb_pI h 217 42 (sp_nx x), ?_, ?_, f1⟩
      · simp only [↓reduceIte, (show (nI 1 ≤ (5 : Int32)) = True from eq_true (by decide)), (show (nI 1 ≤ (7 : Int32)) = True from eq_true (by decide)), (show ((3 : Int32) ≤ nI 1) = False from eq_false (by decide)), (show ((5 : Int32) ≤ nI 1) = False from eq_false (by decide)), (show (nI 1 = (2 : Int32)) = False from eq_false (by decide)), (show (nI 1 = (3 : Int32)) = False from eq_false (by decide)), (show (nI 1 = (4 : Int32)) = False from eq_false (by decide)), f_257_25, f_257_67, f_257_113, f_257_134, f_257_152, if_pos (mi_217 H1), m0, m1, not_true_eq_false, not_false_eq_true]
        rw [if_pos (by rw [hz]; decide)]
      · simp only [(show (5 < 1) = False from eq_false (by decide)), (show (7 < 1) = False from eq_false (by decide)), (show (1 < 3) = True from eq_true (by decide)), (show (1 = 2) = False from eq_false (by decide)), (show (1 = 3) = False from eq_false (by decide)), (show (1 = 4) = False from eq_false (by decide)), ↓reduceIte, if_neg hp]; exact C1
  · by_cases hp : 0 < S.1 0 0
    · obtain ⟨a2, C2, f2⟩ := m_256 C1 (n := S.1 0 0) hp (by omega)
      have H2 := C2.1
      have d1 := sp_dn_lt (sp_nx (sp_nx x)) hp
      obtain ⟨a3, C3, f3⟩ := m_256 C2 (n := 6) (by decide) (by decide)
      have H3 := C3.1
      have d2 := sp_dn_lt (sp_nx (sp_nx (sp_nx x))) (n := 6) (by decide)
      have a3 : f_256 _ 217 6 = _ := a3
      obtain ⟨r, g, b1, b2, b3⟩ := m_go (N := N) (d := (1, sp_dn (sp_nx (sp_nx x)) (S.1 0 0), sp_dn (sp_nx (sp_nx (sp_nx x))) 6, 0)) (a := 1) (b := nI (sp_dn (sp_nx (sp_nx x)) (S.1 0 0))) (c := nI (sp_dn (sp_nx (sp_nx (sp_nx x))) 6)) (e := -1) C3 O ⟨rfl, by dsimp only; omega, fun _ => ⟨rfl, by dsimp only; omega⟩, fun _ => ⟨rfl, d2⟩, fun z => absurd z (by dsimp only; omega)⟩ hN
      refine ⟨g, ?_, ?_, ma_q_t f1 (ma_q_t (ma_q_t f2 f3) b3)⟩
      · simp only [↓reduceIte, (show (nI 2 ≤ (5 : Int32)) = True from eq_true (by decide)), (show (nI 2 ≤ (7 : Int32)) = True from eq_true (by decide)), (show ((3 : Int32) ≤ nI 2) = False from eq_false (by decide)), (show ((5 : Int32) ≤ nI 2) = False from eq_false (by decide)), (show (nI 2 = (2 : Int32)) = True from eq_true (by decide)), (show (nI 2 = (3 : Int32)) = False from eq_false (by decide)), (show (nI 2 = (4 : Int32)) = False from eq_false (by decide)), f_257_25, f_257_67, f_257_113, f_257_134, f_257_152, if_pos (mi_217 H1), m0, m1, not_true_eq_false, not_false_eq_true]
        simp only [if_neg (nI_nle hp (show S.1 0 0 < 2 ^ 31 by omega)), a2, a3, if_pos (mi_217 H2), if_pos (mi_217 H3), Option.bind_some, b1]
      · simp only [(show (5 < 2) = False from eq_false (by decide)), (show (7 < 2) = False from eq_false (by decide)), (show (2 < 3) = True from eq_true (by decide)), (show (2 = 2) = True from eq_true (by decide)), (show (2 = 3) = False from eq_false (by decide)), (show (2 = 4) = False from eq_false (by decide)), ↓reduceIte, if_pos hp]; exact b2
    · have hz : S.1 0 0 = 0 := by omega
      refine ⟨pb_pI h 217 42 (sp_nx x), ?_, ?_, f1⟩
      · simp only [↓reduceIte, (show (nI 2 ≤ (5 : Int32)) = True from eq_true (by decide)), (show (nI 2 ≤ (7 : Int32)) = True from eq_true (by decide)), (show ((3 : Int32) ≤ nI 2) = False from eq_false (by decide)), (show ((5 : Int32) ≤ nI 2) = False from eq_false (by decide)), (show (nI 2 = (2 : Int32)) = True from eq_true (by decide)), (show (nI 2 = (3 : Int32)) = False from eq_false (by decide)), (show (nI 2 = (4 : Int32)) = False from eq_false (by decide)), f_257_25, f_257_67, f_257_113, f_257_134, f_257_152, if_pos (mi_217 H1), m0, m1, not_true_eq_false, not_false_eq_true]
        rw [if_pos (by rw [hz]; decide)]
      · simp only [(show (5 < 2) = False from eq_false (by decide)), (show (7 < 2) = False from eq_false (by decide)), (show (2 < 3) = True from eq_true (by decide)), (show (2 = 2) = True from eq_true (by decide)), (show (2 = 3) = False from eq_false (by decide)), (show (2 = 4) = False from eq_false (by decide)), ↓reduceIte, if_neg hp]; exact C1
  · by_cases hp : 0 < S.1 0 1
    · obtain ⟨a2, C2, f2⟩ := m_256 C1 (n := S.1 0 1) hp (by omega)
      have H2 := C2.1
      have d1 := sp_dn_lt (sp_nx (sp_nx x)) hp
      obtain ⟨a3, C3, f3⟩ := m_256 C2 (n := 6) (by decide) (by decide)
      have H3 := C3.1
      have d2 := sp_dn_lt (sp_nx (sp_nx (sp_nx x))) (n := 6) (by decide)
      have a3 : f_256 _ 217 6 = _ := a3
      obtain ⟨r, g, b1, b2, b3⟩ := m_go (N := N) (d := (2, sp_dn (sp_nx (sp_nx x)) (S.1 0 1), sp_dn (sp_nx (sp_nx (sp_nx x))) 6, 0)) (a := 2) (b := nI (sp_dn (sp_nx (sp_nx x)) (S.1 0 1))) (c := nI (sp_dn (sp_nx (sp_nx (sp_nx x))) 6)) (e := -1) C3 O ⟨rfl, by dsimp only; omega, fun _ => ⟨rfl, by dsimp only; omega⟩, fun _ => ⟨rfl, d2⟩, fun z => absurd z (by dsimp only; omega)⟩ hN
      refine ⟨g, ?_, ?_, ma_q_t f1 (ma_q_t (ma_q_t f2 f3) b3)⟩
      · simp only [↓reduceIte, (show (nI 3 ≤ (5 : Int32)) = True from eq_true (by decide)), (show (nI 3 ≤ (7 : Int32)) = True from eq_true (by decide)), (show ((3 : Int32) ≤ nI 3) = True from eq_true (by decide)), (show ((5 : Int32) ≤ nI 3) = False from eq_false (by decide)), (show (nI 3 = (2 : Int32)) = False from eq_false (by decide)), (show (nI 3 = (3 : Int32)) = True from eq_true (by decide)), (show (nI 3 = (4 : Int32)) = False from eq_false (by decide)), f_257_25, f_257_67, f_257_113, f_257_134, f_257_152, if_pos (mi_217 H1), m0, m1, not_true_eq_false, not_false_eq_true]
        simp only [if_neg (nI_nle hp (show S.1 0 1 < 2 ^ 31 by omega)), a2, a3, if_pos (mi_217 H2), if_pos (mi_217 H3), Option.bind_some, b1]
      · simp only [(show (5 < 3) = False from eq_false (by decide)), (show (7 < 3) = False from eq_false (by decide)), (show (3 < 3) = False from eq_false (by decide)), (show (3 = 2) = False from eq_false (by decide)), (show (3 = 3) = True from eq_true (by decide)), (show (3 = 4) = False from eq_false (by decide)), ↓reduceIte, if_pos hp]; exact b2
    · have hz : S.1 0 1 = 0 := by omega
      refine ⟨pb_pI h 217 42 (sp_nx x), ?_, ?_, f1⟩
      · simp only [↓reduceIte, (show (nI 3 ≤ (5 : Int32)) = True from eq_true (by decide)), (show (nI 3 ≤ (7 : Int32)) = True from eq_true (by decide)), (show ((3 : Int32) ≤ nI 3) = True from eq_true (by decide)), (show ((5 : Int32) ≤ nI 3) = False from eq_false (by decide)), (show (nI 3 = (2 : Int32)) = False from eq_false (by decide)), (show (nI 3 = (3 : Int32)) = True from eq_true (by decide)), (show (nI 3 = (4 : Int32)) = False from eq_false (by decide)), f_257_25, f_257_67, f_257_113, f_257_134, f_257_152, if_pos (mi_217 H1), m0, m1, not_true_eq_false, not_false_eq_true]
        rw [if_pos (by rw [hz]; decide)]
      · simp only [(show (5 < 3) = False from eq_false (by decide)), (show (7 < 3) = False from eq_false (by decide)), (show (3 < 3) = False from eq_false (by decide)), (show (3 = 2) = False from eq_false (by decide)), (show (3 = 3) = True from eq_true (by decide)), (show (3 = 4) = False from eq_false (by decide)), ↓reduceIte, if_neg hp]; exact C1
  · by_cases hp : 0 < S.1 0 1
    · obtain ⟨a2, C2, f2⟩ := m_256 C1 (n := S.1 0 1) hp (by omega)
      have H2 := C2.1
      have d1 := sp_dn_lt (sp_nx (sp_nx x)) hp
      obtain ⟨a3, C3, f3⟩ := m_256 C2 (n := 6) (by decide) (by decide)
      have H3 := C3.1
      have d2 := sp_dn_lt (sp_nx (sp_nx (sp_nx x))) (n := 6) (by decide)
      have a3 : f_256 _ 217 6 = _ := a3
      obtain ⟨a4, C4, f4⟩ := m_256 C3 (n := 3) (by decide) (by decide)
      have H4 := C4.1
      have d3 := sp_dn_lt (sp_nx (sp_nx (sp_nx (sp_nx x)))) (n := 3) (by decide)
      have a4 : f_256 _ 217 3 = _ := a4
      obtain ⟨r, g, b1, b2, b3⟩ := m_go (N := N) (d := (3, sp_dn (sp_nx (sp_nx x)) (S.1 0 1), sp_dn (sp_nx (sp_nx (sp_nx x))) 6, 1 + sp_dn (sp_nx (sp_nx (sp_nx (sp_nx x)))) 3)) (a := 3) (b := nI (sp_dn (sp_nx (sp_nx x)) (S.1 0 1))) (c := nI (sp_dn (sp_nx (sp_nx (sp_nx x))) 6)) (e := nI (1 + sp_dn (sp_nx (sp_nx (sp_nx (sp_nx x)))) 3)) C4 O ⟨rfl, by dsimp only; omega, fun _ => ⟨rfl, by dsimp only; omega⟩, fun _ => ⟨rfl, d2⟩, fun _ => ⟨rfl, by dsimp only; omega⟩⟩ hN
      refine ⟨g, ?_, ?_, ma_q_t f1 (ma_q_t (ma_q_t f2 (ma_q_t f3 f4)) b3)⟩
      · simp only [↓reduceIte, (show (nI 4 ≤ (5 : Int32)) = True from eq_true (by decide)), (show (nI 4 ≤ (7 : Int32)) = True from eq_true (by decide)), (show ((3 : Int32) ≤ nI 4) = True from eq_true (by decide)), (show ((5 : Int32) ≤ nI 4) = False from eq_false (by decide)), (show (nI 4 = (2 : Int32)) = False from eq_false (by decide)), (show (nI 4 = (3 : Int32)) = False from eq_false (by decide)), (show (nI 4 = (4 : Int32)) = True from eq_true (by decide)), f_257_25, f_257_67, f_257_113, f_257_134, f_257_152, if_pos (mi_217 H1), m0, m1, not_true_eq_false, not_false_eq_true]
        simp only [if_neg (nI_nle hp (show S.1 0 1 < 2 ^ 31 by omega)), a2, a3, a4, if_pos (mi_217 H2), if_pos (mi_217 H3), if_pos (mi_217 H4), lG1, Option.bind_some, b1]
      · simp only [(show (5 < 4) = False from eq_false (by decide)), (show (7 < 4) = False from eq_false (by decide)), (show (4 < 3) = False from eq_false (by decide)), (show (4 = 2) = False from eq_false (by decide)), (show (4 = 3) = False from eq_false (by decide)), (show (4 = 4) = True from eq_true (by decide)), ↓reduceIte, if_pos hp]; exact b2
    · have hz : S.1 0 1 = 0 := by omega
      refine ⟨pb_pI h 217 42 (sp_nx x), ?_, ?_, f1⟩
      · simp only [↓reduceIte, (show (nI 4 ≤ (5 : Int32)) = True from eq_true (by decide)), (show (nI 4 ≤ (7 : Int32)) = True from eq_true (by decide)), (show ((3 : Int32) ≤ nI 4) = True from eq_true (by decide)), (show ((5 : Int32) ≤ nI 4) = False from eq_false (by decide)), (show (nI 4 = (2 : Int32)) = False from eq_false (by decide)), (show (nI 4 = (3 : Int32)) = False from eq_false (by decide)), (show (nI 4 = (4 : Int32)) = True from eq_true (by decide)), f_257_25, f_257_67, f_257_113, f_257_134, f_257_152, if_pos (mi_217 H1), m0, m1, not_true_eq_false, not_false_eq_true]
        rw [if_pos (by rw [hz]; decide)]
      · simp only [(show (5 < 4) = False from eq_false (by decide)), (show (7 < 4) = False from eq_false (by decide)), (show (4 < 3) = False from eq_false (by decide)), (show (4 = 2) = False from eq_false (by decide)), (show (4 = 3) = False from eq_false (by decide)), (show (4 = 4) = True from eq_true (by decide)), ↓reduceIte, if_neg hp]; exact C1
  · by_cases hp : 0 < S.1 0 1
    · obtain ⟨a2, C2, f2⟩ := m_256 C1 (n := S.1 0 1) hp (by omega)
      have H2 := C2.1
      have d1 := sp_dn_lt (sp_nx (sp_nx x)) hp
      obtain ⟨r, g, b1, b2, b3⟩ := m_go (N := N) (d := (4, sp_dn (sp_nx (sp_nx x)) (S.1 0 1), 0, 0)) (a := 4) (b := nI (sp_dn (sp_nx (sp_nx x)) (S.1 0 1))) (c := -1) (e := -1) C2 O ⟨rfl, by dsimp only; omega, fun _ => ⟨rfl, by dsimp only; omega⟩, fun z => absurd z (by dsimp only; omega), fun z => absurd z (by dsimp only; omega)⟩ hN
      refine ⟨g, ?_, ?_, ma_q_t f1 (ma_q_t f2 b3)⟩
      · simp only [↓reduceIte, (show (nI 5 ≤ (5 : Int32)) = True from eq_true (by decide)), (show (nI 5 ≤ (7 : Int32)) = True from eq_true (by decide)), (show ((3 : Int32) ≤ nI 5) = True from eq_true (by decide)), (show ((5 : Int32) ≤ nI 5) = True from eq_true (by decide)), (show (nI 5 = (2 : Int32)) = False from eq_false (by decide)), (show (nI 5 = (3 : Int32)) = False from eq_false (by decide)), (show (nI 5 = (4 : Int32)) = False from eq_false (by decide)), f_257_25, f_257_67, f_257_113, f_257_134, f_257_152, if_pos (mi_217 H1), m0, m1, not_true_eq_false, not_false_eq_true]
        simp only [if_neg (nI_nle hp (show S.1 0 1 < 2 ^ 31 by omega)), a2, if_pos (mi_217 H2), Option.bind_some, b1]
      · simp only [(show (5 < 5) = False from eq_false (by decide)), (show (7 < 5) = False from eq_false (by decide)), (show (5 < 3) = False from eq_false (by decide)), (show (5 = 2) = False from eq_false (by decide)), (show (5 = 3) = False from eq_false (by decide)), (show (5 = 4) = False from eq_false (by decide)), ↓reduceIte, if_pos hp]; exact b2
    · have hz : S.1 0 1 = 0 := by omega
      refine ⟨pb_pI h 217 42 (sp_nx x), ?_, ?_, f1⟩
      · simp only [↓reduceIte, (show (nI 5 ≤ (5 : Int32)) = True from eq_true (by decide)), (show (nI 5 ≤ (7 : Int32)) = True from eq_true (by decide)), (show ((3 : Int32) ≤ nI 5) = True from eq_true (by decide)), (show ((5 : Int32) ≤ nI 5) = True from eq_true (by decide)), (show (nI 5 = (2 : Int32)) = False from eq_false (by decide)), (show (nI 5 = (3 : Int32)) = False from eq_false (by decide)), (show (nI 5 = (4 : Int32)) = False from eq_false (by decide)), f_257_25, f_257_67, f_257_113, f_257_134, f_257_152, if_pos (mi_217 H1), m0, m1, not_true_eq_false, not_false_eq_true]
        rw [if_pos (by rw [hz]; decide)]
      · simp only [(show (5 < 5) = False from eq_false (by decide)), (show (7 < 5) = False from eq_false (by decide)), (show (5 < 3) = False from eq_false (by decide)), (show (5 = 2) = False from eq_false (by decide)), (show (5 = 3) = False from eq_false (by decide)), (show (5 = 4) = False from eq_false (by decide)), ↓reduceIte, if_neg hp]; exact C1
  · obtain ⟨r, g, b1, b2, b3⟩ := m_go (N := N) (d := (5, 0, 0, 0)) (a := 5) (b := -1) (c := -1) (e := -1) C1 O (ma_dr5 (by decide) rfl) hN
    refine ⟨g, ?_, ?_, ma_q_t f1 b3⟩
    · simp only [↓reduceIte, (show (nI 6 ≤ (5 : Int32)) = False from eq_false (by decide)), (show (nI 6 ≤ (7 : Int32)) = True from eq_true (by decide)), (show ((3 : Int32) ≤ nI 6) = True from eq_true (by decide)), (show ((5 : Int32) ≤ nI 6) = True from eq_true (by decide)), (show (nI 6 = (2 : Int32)) = False from eq_false (by decide)), (show (nI 6 = (3 : Int32)) = False from eq_false (by decide)), (show (nI 6 = (4 : Int32)) = False from eq_false (by decide)), f_257_25, f_257_67, f_257_113, f_257_134, f_257_152, if_pos (mi_217 H1), m0, m1, not_true_eq_false, not_false_eq_true]
      rw [b1]; rfl
    · exact b2
  · obtain ⟨r, g, b1, b2, b3⟩ := m_go (N := N) (d := (5, 0, 0, 0)) (a := 5) (b := -1) (c := -1) (e := -1) C1 O (ma_dr5 (by decide) rfl) hN
    refine ⟨g, ?_, ?_, ma_q_t f1 b3⟩
    · simp only [↓reduceIte, (show (nI 7 ≤ (5 : Int32)) = False from eq_false (by decide)), (show (nI 7 ≤ (7 : Int32)) = True from eq_true (by decide)), (show ((3 : Int32) ≤ nI 7) = True from eq_true (by decide)), (show ((5 : Int32) ≤ nI 7) = True from eq_true (by decide)), (show (nI 7 = (2 : Int32)) = False from eq_false (by decide)), (show (nI 7 = (3 : Int32)) = False from eq_false (by decide)), (show (nI 7 = (4 : Int32)) = False from eq_false (by decide)), f_257_25, f_257_67, f_257_113, f_257_134, f_257_152, if_pos (mi_217 H1), m0, m1, not_true_eq_false, not_false_eq_true]
      rw [b1]; rfl
    · exact b2
  · obtain ⟨r, g, b1, b2, b3⟩ := m_go (N := N) (d := (6, 0, 0, 0)) (a := 6) (b := -1) (c := -1) (e := -1) C1 O (ma_dr5 (by decide) rfl) hN
    refine ⟨g, ?_, ?_, ma_q_t f1 b3⟩
    · simp only [↓reduceIte, (show (nI 8 ≤ (5 : Int32)) = False from eq_false (by decide)), (show (nI 8 ≤ (7 : Int32)) = False from eq_false (by decide)), (show ((3 : Int32) ≤ nI 8) = True from eq_true (by decide)), (show ((5 : Int32) ≤ nI 8) = True from eq_true (by decide)), (show (nI 8 = (2 : Int32)) = False from eq_false (by decide)), (show (nI 8 = (3 : Int32)) = False from eq_false (by decide)), (show (nI 8 = (4 : Int32)) = False from eq_false (by decide)), f_257_25, f_257_67, f_257_113, f_257_134, f_257_152, if_pos (mi_217 H1), m0, m1, not_true_eq_false, not_false_eq_true]
      rw [b1]; rfl
    · exact b2
  · obtain ⟨r, g, b1, b2, b3⟩ := m_go (N := N) (d := (6, 0, 0, 0)) (a := 6) (b := -1) (c := -1) (e := -1) C1 O (ma_dr5 (by decide) rfl) hN
    refine ⟨g, ?_, ?_, ma_q_t f1 b3⟩
    · simp only [↓reduceIte, (show (nI 9 ≤ (5 : Int32)) = False from eq_false (by decide)), (show (nI 9 ≤ (7 : Int32)) = False from eq_false (by decide)), (show ((3 : Int32) ≤ nI 9) = True from eq_true (by decide)), (show ((5 : Int32) ≤ nI 9) = True from eq_true (by decide)), (show (nI 9 = (2 : Int32)) = False from eq_false (by decide)), (show (nI 9 = (3 : Int32)) = False from eq_false (by decide)), (show (nI 9 = (4 : Int32)) = False from eq_false (by decide)), f_257_25, f_257_67, f_257_113, f_257_134, f_257_152, if_pos (mi_217 H1), m0, m1, not_true_eq_false, not_false_eq_true]
      rw [b1]; rfl
    · exact b2
theorem c_39 {S : ma_S} (H : ma_H h) (C : ma_C h S) (O : ma_SO S) {n : Nat} (hn : n ≤ 60) (x : Int32) (hN : 3000 < N) : ∃ g, f_39 N h 200 x (nI n) = some g ∧ ma_Cs g (ma_fo (fun _ p => sp_dw p) n (S, x)) ∧ ma_q h g ∧ ma_SO (ma_fo (fun _ p => sp_dw p) n (S, x)).1 := by
  have q0 : ma_q h (pb_pI h 200 8 x) := ma_q_pI (ma_q_r h) (by decide) _ _
  have hl : ∃ e, pb_wl (f_39_7s N 200 (nI n)) N (0, pb_pI h 200 8 x) = some e ∧ (ma_Cs e (ma_fo (fun _ p => sp_dw p) n (S, x)) ∧ ma_q h e ∧ ma_SO (ma_fo (fun _ p => sp_dw p) n (S, x)).1) := by
    refine ma_lh (fun j s => s.1 = nI j ∧ ma_Cs s.2 (ma_fo (fun _ p => sp_dw p) j (S, x)) ∧ ma_q h s.2 ∧ ma_SO (ma_fo (fun _ p => sp_dw p) j (S, x)).1) _ n 0 N _ (by omega) (by omega) ⟨rfl, ⟨H, ma_C_sd C x, rfl⟩, q0, O⟩ ?_ ?_
    · rintro j ⟨i, g⟩ _ hj ⟨hi, C1, q1, O1⟩
      dsimp only at hi C1 q1
      subst hi
      left
      obtain ⟨g2, a1, a2, a3, a4⟩ := c_41 (N := N) C1 O1 hN
      refine ⟨(nI (j + 1), g2), ?_, rfl, by rw [ma_fo_s]; exact a2, ma_q_t q1 a3, by rw [ma_fo_s]; exact a4⟩
      simp only [f_39_7s, if_neg (nI_ge hj (show n < 2 ^ 31 by omega)), if_pos (mi_200 C1.1), a1, Option.bind_some, nI_1]
    · rintro ⟨i, g⟩ ⟨hi, C1, q1, O1⟩
      dsimp only at hi C1 q1
      subst hi
      refine ⟨g, ?_, C1, q1, O1⟩
      simp only [f_39_7s, if_pos (nI_le (Nat.le_refl n) (show n < 2 ^ 31 by omega))]
  obtain ⟨g, a1, a2⟩ := hl
  refine ⟨g, ?_, a2⟩
  simp only [f_39, if_pos (mi_200 H), a1, Option.bind_some]
theorem m_258l {S : ma_S} (H : ma_H h) (D : ma_D h S) (O : ma_SO S) {n : Nat} (hn : n ≤ 60) (x w : Int32) (hN : 3000 < N) : ∃ g, pb_wl (f_258_33s N 217 (nI n) w) N (0, pb_pI h 217 42 x) = some g ∧ ma_Ds g (ma_fo (fun _ p => sp_dw p) n (S, x)) ∧ ma_q h g := by
  have q0 : ma_q h (pb_pI h 217 42 x) := ma_q_pI (ma_q_r h) (by decide) _ _
  have hO : ∀ j, ma_SO (ma_fo (fun _ p => sp_dw p) j (S, x)).1 → True := fun _ _ => trivial
  refine ma_lh (fun j s => s.1 = nI j ∧ ma_Ds s.2 (ma_fo (fun _ p => sp_dw p) j (S, x)) ∧ ma_q h s.2 ∧ ma_SO (ma_fo (fun _ p => sp_dw p) j (S, x)).1) _ n 0 N _ (by omega) (by omega) ⟨rfl, ⟨H, ma_D_sd D x, rfl⟩, q0, O⟩ ?_ ?_
  · rintro j ⟨i, g⟩ _ hj ⟨hi, C1, q1, O1⟩
    dsimp only at hi C1 q1
    subst hi
    left
    obtain ⟨g2, a1, a2, a3⟩ := m_257 (N := N) C1 O1 hN
    refine ⟨(nI (j + 1), g2), ?_, rfl, by rw [ma_fo_s]; exact a2, ma_q_t q1 a3, by rw [ma_fo_s]; exact sp_dw_SO O1⟩
    simp only [f_258_33s, if_neg (nI_ge hj (show n < 2 ^ 31 by omega)), if_pos (mi_217 C1.1), a1, Option.bind_some, nI_1]
  · rintro ⟨i, g⟩ ⟨hi, C1, q1, O1⟩
    dsimp only at hi C1 q1
    subst hi
    refine ⟨g, ?_, C1, q1⟩
    simp only [f_258_33s, if_pos (nI_le (Nat.le_refl n) (show n < 2 ^ 31 by omega))]
theorem q_drawn (I : ma_INV h) (hN : 3000 < N) (x y z w : Int32) : ma_Q h (f_141 N h 0 x y z w) (fun g => f_258 N g 217 x y z w) := by
  have H := I.1
  have hq : ma_q h (pb_pI h 217 0 0) := ma_q_pI (ma_q_r h) (by decide) 0 0
  have z168 := m_168z z (n := 60) (y := 60) rfl (by decide)
  cases hz : ma_at z (60 + 1)
  · rw [hz] at z168
    rcases ma_W I hN x with ⟨e1, e2⟩ | ⟨c, K, e1, hc, O, OT, V, e2⟩
    · exact ⟨-1, h, pb_pI h 217 0 0, by simp only [f_141, if_pos (mi_0 H), mr_0_0 H, Option.bind_some, if_pos (mi_1 H), e1], ma_q_r h, by simp only [f_258, if_pos (mi_217 H), z168, Option.bind_some, i10, i01, true_or, or_true, false_or, or_false, true_and, and_true, and_false, false_and, not_true_eq_false, not_false_eq_true, if_true, if_false, eq_self, ma_b0, Bool.false_eq_true, Bool.true_eq_false, reduceCtorEq], hq⟩
    · refine ⟨-1, h, pb_pI h 217 0 0, ?_, ma_q_r h, by simp only [f_258, if_pos (mi_217 H), z168, Option.bind_some, i10, i01, true_or, or_true, false_or, or_false, true_and, and_true, and_false, false_and, not_true_eq_false, not_false_eq_true, if_true, if_false, eq_self, ma_b0, Bool.false_eq_true, Bool.true_eq_false, reduceCtorEq], hq⟩
      by_cases z1 : z < 0
      · simp only [f_141, if_pos (mi_0 H), mr_0_0 H, Option.bind_some, if_pos (mi_1 H), e1, if_pos z1]
      · have z2 : ¬ z ≤ 60 := by
          rcases ma_at_no hz with q | q
          · exact absurd q z1
          · rw [Int32.le_iff_toInt_le] at q ⊢
            have k1 : (nI (60 + 1)).toInt = 61 := by decide
            have k2 : (60 : Int32).toInt = 60 := by decide
            omega
        simp only [f_141, if_pos (mi_0 H), mr_0_0 H, Option.bind_some, if_pos (mi_1 H), e1, if_neg z1, if_neg z2]
  · rw [hz] at z168
    obtain ⟨n, hn, rfl⟩ := ma_at_ex (by decide) hz
    have z1 : ¬ nI n < 0 := nI_pos (by omega)
    have z2 : nI n ≤ 60 := (lC60 (by omega)).mpr (by omega)
    rcases ma_W I hN x with ⟨e1, e2⟩ | ⟨c, K, e1, hc, O, OT, V, e2⟩
    · exact ⟨-1, h, pb_pI h 217 0 0, by simp only [f_141, if_pos (mi_0 H), mr_0_0 H, Option.bind_some, if_pos (mi_1 H), e1], ma_q_r h, by simp only [f_258, if_pos (mi_217 H), z168, e2 _ hq, Option.bind_some, i10, i01, true_or, or_true, false_or, or_false, true_and, and_true, and_false, false_and, not_true_eq_false, not_false_eq_true, if_true, if_false, eq_self, ma_b0, Bool.false_eq_true, Bool.true_eq_false, reduceCtorEq], hq⟩
    · have SO := ma_SO0 O OT
      obtain ⟨g1, b1, b2, b3⟩ := c_28 H V O hc
      have H1 := ma_H_fr H b2
      obtain ⟨g2, b4, b5, b6, b7⟩ := c_39 (N := N) H1 b3 SO (show n ≤ 60 by omega) y hN
      obtain ⟨r, t1, t2⟩ := ma_tell (N := N) b7.1 hN w
      obtain ⟨g3, b8, b9⟩ := t1 g2 b5.1 b5.2.1
      have qg : ma_q h g3 := ma_q_t (ma_cq b2) (ma_q_t b6 b9)
      obtain ⟨g4, e3, q3, B⟩ := e2 _ (ma_q_pI qg (by decide : ¬ ma_ps 217) 0 0)
      obtain ⟨g5, m1, m2, m3⟩ := m_258l (N := N) B.1 (ma_D0 B) SO (show n ≤ 60 by omega) y w hN
      obtain ⟨g6, m4, m5⟩ := t2 g5 m2.1 m2.2.1
      refine ⟨r, g3, g6, ?_, qg, ?_, ma_q_t (ma_q_pI (ma_q_r g3) (by decide) 0 0) (ma_q_t q3 (ma_q_t m3 m5))⟩
      · simp only [f_141, if_pos (mi_0 H), mr_0_0 H, Option.bind_some, if_pos (mi_1 H), e1, if_neg z1, if_pos z2, mr_0_8 H, if_pos (mi_200 H), b1, if_pos (mi_0 H1), mr_0_8 H1, if_pos (mi_200 H1), b4, if_pos (mi_0 b5.1), mr_0_8 b5.1, if_pos (mi_200 b5.1), b8]
      · simp only [f_258, if_pos (mi_217 (ma_H_q H qg)), z168, e3, Option.bind_some, i10, i01, true_or, or_true, false_or, or_false, true_and, and_true, and_false, false_and, not_true_eq_false, not_false_eq_true, if_true, if_false, eq_self, ma_b0, Bool.false_eq_true, Bool.true_eq_false, reduceCtorEq, if_pos (mi_217 B.1), m1, if_pos (mi_217 m2.1), m4]
end

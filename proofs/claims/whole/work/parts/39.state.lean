/-! A year of a county: till, state. -/
def sp_end (D : Nat → ma_dd) : Nat → Nat → ma_S → Nat × ma_S
  | 0, k, S => (k, S)
  | n + 1, k, S => match sp_act S (D k) with
    | none => (k, S)
    | some S2 => sp_end D n (k + 1) S2
theorem sp_end_le (D : Nat → ma_dd) : ∀ n k S, (sp_end D n k S).1 ≤ k + n ∧ k ≤ (sp_end D n k S).1
  | 0, k, S => ⟨Nat.le_refl _, Nat.le_refl _⟩
  | n + 1, k, S => by
    unfold sp_end
    split
    · dsimp only; omega
    · rename_i S2 _
      have := sp_end_le D n (k + 1) S2
      omega
theorem sp_end_SO (D : Nat → ma_dd) (Y : ma_Y) : ∀ n k S, (∀ j, j < k + n → ma_dr (D j) (Y.2 j)) → ma_SO S → ma_SO (sp_end D n k S).2
  | 0, k, S, _, O => O
  | n + 1, k, S, hd, O => by
    unfold sp_end
    split
    · exact O
    · rename_i S2 e
      exact sp_end_SO D Y n (k + 1) S2 (fun j hj => hd j (by omega)) (ma_SO_act (hd k (by omega)) O e)
section
variable {h : pb_HP} {K : ma_K} {N : Nat}
theorem c_28 {c : Nat} (H : ma_H h) (V : ma_V h c K) (O : ma_OK K) (hc : c = 3 ∨ c = 10) : ∃ g, f_28 h 200 c = some g ∧ ma_fr ma_cL ma_cF h g ∧ ma_C g (K, 0, 6, 0, 0) := by
  obtain ⟨g, a1, a2, a3⟩ := c_2 H V O ma_ct201 (by omega)
  have H2 := ma_H_fr H a2
  refine ⟨pb_pI (pb_pI (pb_pI (pb_pI g 200 4 0) 200 5 6) 200 6 0) 200 7 0, ?_, ?_, ?_, ?_, ?_, ?_, ?_⟩
  · simp only [f_28, if_pos (mi_200 H), mr_200_0 H, Option.bind_some, if_pos (mi_201 H), a1, if_pos (mi_200 H2)]
  · exact ma_fr_pI (ma_fr_pI (ma_fr_pI (ma_fr_pI (ma_fr_w a2 (by decide) (by decide)) (.inr (by decide)) _) (.inr (by decide)) _) (.inr (by decide)) _) (.inr (by decide)) _
  · exact ma_V_o (ma_V_o (ma_V_o (ma_V_o a3 (by decide) _ _) (by decide) _ _) (by decide) _ _) (by decide) _ _
  · rfl
  · rfl
  · rfl
  · rfl
theorem ma_D0 (B : ma_B h K) : ma_D h (K, 0, 6, 0, 0) := ⟨B.2.1, B.2.2.2.1, B.2.2.2.2.1, B.2.2.2.2.2.1, B.2.2.2.2.2.2, K, B.2.2.1, fun _ => rfl⟩
theorem ma_SO0 (O : ma_OK K) (OT : ma_OT K) : ma_SO (K, 0, 6, 0, 0) := ⟨O, Nat.zero_le _, Nat.le_refl 6, fun z => absurd z (Nat.lt_irrefl 6), fun k => (OT k).2⟩
theorem c_30 {S : ma_S} {d : ma_dd} {l k : Nat} {Y : ma_Y} (H : ma_H h) (C : ma_C h S) (O : ma_SO S) (L : ma_L h l 40 3 Y) (hY : Y.1 ≤ 40) (hk : k < Y.1) (hd : ma_dr d (Y.2 k)) (hN : 3000 < N) : (sp_act S d = none → f_30 N h 200 l (nI k) = some (0, h)) ∧ ∀ S2, sp_act S d = some S2 → ∃ g, f_30 N h 200 l (nI k) = some (1, g) ∧ ma_fr ma_cL ma_cF h g ∧ ma_C g S2 := by
  have Lc := L.1
  have li := wl_is H L
  have e := L.2.2.2 k hk
  have e3 := e.2.2.2 rfl
  have c := c_31 (N := N) H C O hd hN
  refine ⟨fun z => ?_, fun S2 z => ?_⟩
  · simp only [f_30, if_pos li, wl_r1 H Lc, wl_r2 H Lc, wl_r3 H Lc, wl_r4 H Lc, Option.bind_some, if_pos (wl_x1 H Lc (by decide) (show k < 40 by omega)), if_pos (wl_x2 H Lc (by decide) (show k < 40 by omega)), if_pos (wl_x3 H Lc (by decide) (show k < 40 by omega)), if_pos (wl_x4 H Lc (by decide) (show k < 40 by omega)), if_pos (mi_200 H), nI_clamp (show k < 2 ^ 31 by omega), e.1, e.2.1, e.2.2.1, e3, c.1 z, ma_00, true_or, or_true, if_true]
  · obtain ⟨g, a1, a2, a3⟩ := c.2 S2 z
    refine ⟨g, ?_, a2, a3⟩
    simp only [f_30, if_pos li, wl_r1 H Lc, wl_r2 H Lc, wl_r3 H Lc, wl_r4 H Lc, Option.bind_some, if_pos (wl_x1 H Lc (by decide) (show k < 40 by omega)), if_pos (wl_x2 H Lc (by decide) (show k < 40 by omega)), if_pos (wl_x3 H Lc (by decide) (show k < 40 by omega)), if_pos (wl_x4 H Lc (by decide) (show k < 40 by omega)), if_pos (mi_200 H), nI_clamp (show k < 2 ^ 31 by omega), e.1, e.2.1, e.2.2.1, e3, a1, ma_01, true_or, or_true, if_true]
theorem ma_L_cL {l cap nb : Nat} {Y : ma_Y} {g : pb_HP} (L : ma_L h l cap nb Y) (hl : l ≤ 40) (f : ma_fr ma_cL ma_cF h g) : ma_L g l cap nb Y := ma_L_e L (fun o a b => ma_fr_o f (by simp; omega) (by simp; omega))
theorem c_29l {T l : Nat} {Y : ma_Y} {D : Nat → ma_dd} (hl : l ≤ 40) (hY : Y.1 ≤ 40) (hT : T ≤ Y.1) (hd : ∀ j, j < T → ma_dr (D j) (Y.2 j)) (hN : 3000 < N) : ∀ (n M k : Nat) (S : ma_S) (h : pb_HP), n < M → k + n = T → ma_H h → ma_C h S → ma_SO S → ma_L h l 40 3 Y → ∃ g, pb_wl (f_29_2s N 200 l (nI T)) M (nI k, h) = some (if (sp_end D n k S).1 < T then .inl (nI (sp_end D n k S).1, g) else .inr g) ∧ ma_fr ma_cL ma_cF h g ∧ ma_C g (sp_end D n k S).2
  | 0, M, k, S, h, hM, hk, H, C, O, L => by
    obtain ⟨M, rfl⟩ : ∃ m, M = m + 1 := ⟨M - 1, by omega⟩
    refine ⟨h, ?_, ma_fr_r _ _ _, C⟩
    have hkT : k = T := by omega
    unfold pb_wl
    simp only [f_29_2s, sp_end, hkT, if_pos (nI_le (Nat.le_refl T) (show T < 2 ^ 31 by omega)), Nat.lt_irrefl, if_false]
  | n + 1, M, k, S, h, hM, hk, H, C, O, L => by
    obtain ⟨M, rfl⟩ : ∃ m, M = m + 1 := ⟨M - 1, by omega⟩
    have c := c_30 (N := N) H C O L hY (show k < Y.1 by omega) (hd k (by omega)) hN
    unfold sp_end pb_wl
    cases e : sp_act S (D k) with
    | none =>
      refine ⟨h, ?_, ma_fr_r _ _ _, C⟩
      simp only [f_29_2s, if_neg (nI_ge (show k < T by omega) (show T < 2 ^ 31 by omega)), if_pos (mi_200 H), c.1 e, Option.bind_some, eq_self, not_true_eq_false, if_false, if_pos (show k < T by omega)]
    | some S2 =>
      obtain ⟨g, a1, a2, a3⟩ := c.2 S2 e
      obtain ⟨g2, b1, b2, b3⟩ := c_29l hl hY hT hd hN n M (k + 1) S2 g (by omega) (by omega) (ma_H_fr H a2) a3 (ma_SO_act (hd k (by omega)) O e) (ma_L_cL L hl a2)
      refine ⟨g2, ?_, ma_fr_t a2 b2, b3⟩
      simp only [f_29_2s, if_neg (nI_ge (show k < T by omega) (show T < 2 ^ 31 by omega)), if_pos (mi_200 H), a1, Option.bind_some, i10, not_false_eq_true, if_true, nI_1]
      exact b1
theorem c_29 {T l : Nat} {Y : ma_Y} {D : Nat → ma_dd} {S : ma_S} (hl : l ≤ 40) (hY : Y.1 ≤ 40) (hT : T ≤ Y.1) (hd : ∀ j, j < T → ma_dr (D j) (Y.2 j)) (hN : 3000 < N) (H : ma_H h) (C : ma_C h S) (O : ma_SO S) (L : ma_L h l 40 3 Y) : ∃ g, f_29 N h 200 l (nI T) = some (nI (sp_end D T 0 S).1, g) ∧ ma_fr ma_cL ma_cF h g ∧ ma_C g (sp_end D T 0 S).2 := by
  obtain ⟨g, a1, a2, a3⟩ := c_29l hl hY hT hd hN T N 0 S h (by omega) (by omega) H C O L
  refine ⟨g, ?_, a2, a3⟩
  have := sp_end_le D T 0 S
  have a1 : pb_wl (f_29_2s N 200 l (nI T)) N (0, h) = _ := a1
  unfold f_29
  rw [a1]
  by_cases q : (sp_end D T 0 S).1 < T
  · rw [if_pos q]; rfl
  · rw [if_neg q, show (sp_end D T 0 S).1 = T by omega]; rfl
/-! the model's -/
def ma_yv (h : pb_HP) (k : Nat) (Y : ma_Y) : Prop := k < 2 ∧ pb_I h 217 36 = nI k ∧ ma_Ly h 224 (161 * k) 4 Y
theorem ma_yv_fr {k : Nat} {Y : ma_Y} {g : pb_HP} (y : ma_yv h k Y) (f : ma_fr ma_dL ma_dF h g) : ma_yv g k Y := by
  refine ⟨y.1, ?_, ma_Ly_e y.2.2 (ma_fr_o f (by decide) (by decide))⟩
  rw [f.2.2 217 36 (by decide) (by decide)]; exact y.2.1
theorem m_221 {S : ma_S} {d : ma_dd} {k y : Nat} {Y : ma_Y} (H : ma_H h) (D : ma_D h S) (O : ma_SO S) (yv : ma_yv h y Y) (hY : Y.1 ≤ 40) (hk : k < Y.1) (hd : ma_dr d (Y.2 k)) (hN : 3000 < N) : (sp_act S d = none → f_221 N h 217 (nI k) = some (0, h)) ∧ ∀ S2, sp_act S d = some S2 → ∃ g, f_221 N h 217 (nI k) = some (1, g) ∧ ma_fr ma_dL ma_dF h g ∧ ma_D g S2 := by
  obtain ⟨y1, y2, y3⟩ := yv
  have o0 : f_213 h 217 (nI k) 0 = some (Y.2 k 0) := m_ofy (i := 0) H y1 y2 y3 hY hk (by decide)
  have o1 : f_213 h 217 (nI k) 1 = some (Y.2 k 1) := m_ofy (i := 1) H y1 y2 y3 hY hk (by decide)
  have o2 : f_213 h 217 (nI k) 2 = some (Y.2 k 2) := m_ofy (i := 2) H y1 y2 y3 hY hk (by decide)
  have o3 : f_213 h 217 (nI k) 3 = some (Y.2 k 3) := m_ofy (i := 3) H y1 y2 y3 hY hk (by decide)
  have c := m_220 (N := N) H D O hd hN
  refine ⟨fun z => ?_, fun S2 z => ?_⟩
  · simp only [f_221, if_pos (mi_217 H), o0, o1, o2, o3, Option.bind_some, c.1 z, ma_00, true_or, or_true, if_true]
  · obtain ⟨g, a1, a2, a3⟩ := c.2 S2 z
    refine ⟨g, ?_, a2, a3⟩
    simp only [f_221, if_pos (mi_217 H), o0, o1, o2, o3, Option.bind_some, a1, ma_01, true_or, or_true, if_true]
theorem m_222l {T y : Nat} {Y : ma_Y} {D : Nat → ma_dd} (hY : Y.1 ≤ 40) (hT : T ≤ Y.1) (hd : ∀ j, j < T → ma_dr (D j) (Y.2 j)) (hN : 3000 < N) : ∀ (n M k : Nat) (S : ma_S) (h : pb_HP), n < M → k + n = T → ma_H h → ma_D h S → ma_SO S → ma_yv h y Y → ∃ g, pb_wl (f_222_2s N 217 (nI T)) M (nI k, h) = some (nI (sp_end D n k S).1, g) ∧ ma_fr ma_dL ma_dF h g ∧ ma_D g (sp_end D n k S).2
  | 0, M, k, S, h, hM, hk, H, C, O, L => by
    obtain ⟨M, rfl⟩ : ∃ m, M = m + 1 := ⟨M - 1, by omega⟩
    refine ⟨h, ?_, ma_fr_r _ _ _, C⟩
    have hkT : k = T := by omega
    unfold pb_wl
    simp only [f_222_2s, sp_end, hkT, if_pos (nI_le (Nat.le_refl T) (show T < 2 ^ 31 by omega))]
  | n + 1, M, k, S, h, hM, hk, H, C, O, L => by
    obtain ⟨M, rfl⟩ : ∃ m, M = m + 1 := ⟨M - 1, by omega⟩
    have c := m_221 (N := N) H C O L hY (show k < Y.1 by omega) (hd k (by omega)) hN
    unfold sp_end pb_wl
    cases e : sp_act S (D k) with
    | none =>
      refine ⟨h, ?_, ma_fr_r _ _ _, C⟩
      simp only [f_222_2s, if_neg (nI_ge (show k < T by omega) (show T < 2 ^ 31 by omega)), if_pos (mi_217 H), c.1 e, Option.bind_some, eq_self, if_true]
    | some S2 =>
      obtain ⟨g, a1, a2, a3⟩ := c.2 S2 e
      obtain ⟨g2, b1, b2, b3⟩ := m_222l hY hT hd hN n M (k + 1) S2 g (by omega) (by omega) (ma_H_fr H a2) a3 (ma_SO_act (hd k (by omega)) O e) (ma_yv_fr L a2)
      refine ⟨g2, ?_, ma_fr_t a2 b2, b3⟩
      simp only [f_222_2s, if_neg (nI_ge (show k < T by omega) (show T < 2 ^ 31 by omega)), if_pos (mi_217 H), a1, Option.bind_some, i10, if_false, nI_1]
      exact b1
theorem m_222 {T y : Nat} {Y : ma_Y} {D : Nat → ma_dd} {S : ma_S} (hY : Y.1 ≤ 40) (hT : T ≤ Y.1) (hd : ∀ j, j < T → ma_dr (D j) (Y.2 j)) (hN : 3000 < N) (H : ma_H h) (C : ma_D h S) (O : ma_SO S) (L : ma_yv h y Y) : ∃ g, f_222 N h 217 (nI T) = some (nI (sp_end D T 0 S).1, g) ∧ ma_fr ma_dL ma_dF h g ∧ ma_D g (sp_end D T 0 S).2 := by
  obtain ⟨g, a1, a2, a3⟩ := m_222l hY hT hd hN T N 0 S h (by omega) (by omega) H C O L
  refine ⟨g, ?_, a2, a3⟩
  have a1 : pb_wl (f_222_2s N 217 (nI T)) N (0, h) = _ := a1
  unfold f_222
  rw [a1]
  rfl
theorem ma_cq {g : pb_HP} (f : ma_fr ma_cL ma_cF h g) : ma_q h g := ⟨f.1, f.2.1, fun o ho => funext fun k => f.2.2 o k (fun z => by revert z; simp; omega) (fun z => by revert z; simp; omega)⟩
theorem ma_dq {g : pb_HP} (f : ma_fr ma_dL ma_dF h g) : ma_q h g := ⟨f.1, f.2.1, fun o ho => funext fun k => f.2.2 o k (fun z => by revert z; simp; omega) (fun z => by revert z; simp; omega)⟩
/-! what is told of a state -/
def sp_t0 (S : ma_S) (r : Nat) : Int32 := if r = 0 then nI S.2.1 else if r = 1 then nI S.2.2.1 else if r = 2 then nI S.2.2.2.1 else if r = 3 then nI (sp_vs S.1) else if r = 4 then nI (sp_pk S.1 (sp_to S.1) 63) else if r = 5 then nI S.2.2.2.2 else -1
def sp_t1 (S : ma_S) (q r : Nat) : Int32 := if q = 0 then sp_t0 S r else if q = 1 then (if r < S.1 0 0 then nI (S.1 2 r) else -1) else if q = 2 then (if r < S.1 0 1 then nI (S.1 3 r) else -1) else if q = 3 then (if r < S.1 0 1 then nI (S.1 4 r) else -1) else if q = 4 then (if r < S.1 0 1 then nI (S.1 5 r) else -1) else if q = 5 then (if r < S.1 0 1 then nI (sp_pt S.1 r 63) else -1) else -1
def sp_tl (S : ma_S) (w : Nat) : Int32 := if w < 100 then sp_t1 S (w / 10) (w - 10 * (w / 10)) else sp_lk S.1 (w - 100)
theorem c_38 {S : ma_S} (H : ma_H h) (C : ma_C h S) (O : ma_OK S.1) (hN : 3000 < N) {r : Nat} (hr : r < 10) : ∃ g, f_38 N h 200 (nI r) = some (sp_t0 S r, g) ∧ ma_fr [208, 209] [] h g := by
  obtain ⟨V, c1, c2, c3, c4⟩ := C
  have i0 := mi_200 H
  have : r = 0 ∨ r = 1 ∨ r = 2 ∨ r = 3 ∨ r = 4 ∨ r = 5 ∨ 5 < r := by omega
  rcases this with q | q | q | q | q | q | q
  · subst q; exact ⟨h, by simp only [f_38, nI_0, if_true, if_pos i0, c1, sp_t0], ma_fr_r _ _ _⟩
  · subst q; exact ⟨h, by simp only [f_38, (show (nI 1 = (0 : Int32)) = False from eq_false (by decide)), (show (nI 1 = (1 : Int32)) = True from eq_true rfl), ↓reduceIte, if_pos i0, c2, sp_t0, (show (1 = 0) = False from eq_false (by decide))], ma_fr_r _ _ _⟩
  · subst q; exact ⟨h, by simp only [f_38, (show (nI 2 = (0 : Int32)) = False from eq_false (by decide)), (show (nI 2 = (1 : Int32)) = False from eq_false (by decide)), (show (nI 2 = (2 : Int32)) = True from eq_true rfl), ↓reduceIte, if_pos i0, c3, sp_t0, (show (2 = 0) = False from eq_false (by decide)), (show (2 = 1) = False from eq_false (by decide))], ma_fr_r _ _ _⟩
  · subst q
    obtain ⟨g, a1, a2, a3, a4⟩ := c_76 (N := N) H V O ma_pl208 (by omega) hN
    have H2 := ma_H_fr H a2
    exact ⟨g, by simp only [f_38, (show (nI 3 = (0 : Int32)) = False from eq_false (by decide)), (show (nI 3 = (1 : Int32)) = False from eq_false (by decide)), (show (nI 3 = (2 : Int32)) = False from eq_false (by decide)), (show (nI 3 = (3 : Int32)) = True from eq_true rfl), ↓reduceIte, if_pos i0, mr_200_1 H, mr_200_0 H, Option.bind_some, if_pos (mi_208 H), a1, if_pos (mi_200 H2), mr_200_1 H2, if_pos (mi_208 H2), a4, sp_t0, (show (3 = 0) = False from eq_false (by decide)), (show (3 = 1) = False from eq_false (by decide)), (show (3 = 2) = False from eq_false (by decide))], a2⟩
  · subst q
    obtain ⟨g, a1, a2, a3, a4⟩ := c_76 (N := N) H V O ma_pl208 (by omega) hN
    have H2 := ma_H_fr H a2
    have e77 : f_77 N g 208 63 = some (nI (sp_pk S.1 (sp_to S.1) 63)) := by
      have := c_77 H2 ma_pl208 O.1 a3 (fun c _ => sp_pp_le O c) (b := 63) (by decide) hN
      rw [sp_q_pk O (fun c m hc hm => sp_pp_to c m hc hm) 63] at this
      exact this
    exact ⟨g, by simp only [f_38, (show (nI 4 = (0 : Int32)) = False from eq_false (by decide)), (show (nI 4 = (1 : Int32)) = False from eq_false (by decide)), (show (nI 4 = (2 : Int32)) = False from eq_false (by decide)), (show (nI 4 = (3 : Int32)) = False from eq_false (by decide)), (show (nI 4 = (4 : Int32)) = True from eq_true rfl), ↓reduceIte, if_pos i0, mr_200_1 H, mr_200_0 H, Option.bind_some, if_pos (mi_208 H), a1, if_pos (mi_200 H2), mr_200_1 H2, if_pos (mi_208 H2), e77, sp_t0, (show (4 = 0) = False from eq_false (by decide)), (show (4 = 1) = False from eq_false (by decide)), (show (4 = 2) = False from eq_false (by decide)), (show (4 = 3) = False from eq_false (by decide))], a2⟩
  · subst q; exact ⟨h, by simp only [f_38, (show (nI 5 = (0 : Int32)) = False from eq_false (by decide)), (show (nI 5 = (1 : Int32)) = False from eq_false (by decide)), (show (nI 5 = (2 : Int32)) = False from eq_false (by decide)), (show (nI 5 = (3 : Int32)) = False from eq_false (by decide)), (show (nI 5 = (4 : Int32)) = False from eq_false (by decide)), (show (nI 5 = (5 : Int32)) = True from eq_true rfl), ↓reduceIte, if_pos i0, c4, sp_t0, (show (5 = 0) = False from eq_false (by decide)), (show (5 = 1) = False from eq_false (by decide)), (show (5 = 2) = False from eq_false (by decide)), (show (5 = 3) = False from eq_false (by decide)), (show (5 = 4) = False from eq_false (by decide))], ma_fr_r _ _ _⟩
  · refine ⟨h, ?_, ma_fr_r _ _ _⟩
    simp only [f_38, (show (nI r = (0 : Int32)) = False from eq_false (fun y => by have := (nI_eq (b := 0) (by omega) (by decide)).mp y; omega)), (show (nI r = (1 : Int32)) = False from eq_false (fun y => by have := (nI_eq (b := 1) (by omega) (by decide)).mp y; omega)), (show (nI r = (2 : Int32)) = False from eq_false (fun y => by have := (nI_eq (b := 2) (by omega) (by decide)).mp y; omega)), (show (nI r = (3 : Int32)) = False from eq_false (fun y => by have := (nI_eq (b := 3) (by omega) (by decide)).mp y; omega)), (show (nI r = (4 : Int32)) = False from eq_false (fun y => by have := (nI_eq (b := 4) (by omega) (by decide)).mp y; omega)), (show (nI r = (5 : Int32)) = False from eq_false (fun y => by have := (nI_eq (b := 5) (by omega) (by decide)).mp y; omega)), ↓reduceIte, sp_t0, (show (r = 0) = False from eq_false (by omega)), (show (r = 1) = False from eq_false (by omega)), (show (r = 2) = False from eq_false (by omega)), (show (r = 3) = False from eq_false (by omega)), (show (r = 4) = False from eq_false (by omega)), (show (r = 5) = False from eq_false (by omega))]
theorem c_37 {S : ma_S} (H : ma_H h) (C : ma_C h S) (O : ma_OK S.1) (hN : 3000 < N) {w : Nat} (hw : w < 2 ^ 31) : ∃ g, f_37 N h 200 (nI w) = some (sp_tl S w, g) ∧ ma_fr [208, 209] [] h g := by
  have V := C.1
  have hch := O.2.1
  have hme := O.1
  have i0 := mi_200 H
  have i1 := mi_201 H
  unfold sp_tl
  by_cases h1 : w < 100
  · obtain ⟨q, hq⟩ : ∃ q, q = w / 10 := ⟨_, rfl⟩
    obtain ⟨r, hr⟩ : ∃ r, r = w - 10 * q := ⟨_, rfl⟩
    rw [if_pos h1, ← hq, ← hr]
    have e1 : nI w / 10 = nI q := by rw [lL10 hw, ← hq]
    have e2 : nI w - nI q * 10 = nI r := by rw [lJ10, pk_sub (by omega), ← hr]
    have p0 : ((0 : Int32) ≤ nI w) = True := eq_true (nI_pos' hw)
    have p1 : (nI w < (100 : Int32)) = True := eq_true ((lD100 hw).mpr h1)
    have : q = 0 ∨ q = 1 ∨ q = 2 ∨ q = 3 ∨ q = 4 ∨ q = 5 ∨ 5 < q := by omega
    have c3 := c_3 H V (nI r)
    have c4 := c_4 H V (nI r)
    rw [ma_at_nI (by omega) (by omega)] at c3 c4
    unfold sp_t1
    rcases this with z | z | z | z | z | z | z
    · subst z
      obtain ⟨g, a1, a2⟩ := c_38 (N := N) H C O hN (show r < 10 by omega)
      refine ⟨g, ?_, a2⟩
      simp only [f_37, p0, p1, e1, e2, (show (nI 0 = (0 : Int32)) = True from eq_true rfl), ↓reduceIte, if_pos i0, a1, Option.bind_some]
    · subst z
      refine ⟨h, ?_, ma_fr_r _ _ _⟩
      simp only [f_37, p0, p1, e1, e2, (show (nI 1 = (0 : Int32)) = False from eq_false (by decide)), (show (nI 1 = (1 : Int32)) = True from eq_true rfl), ↓reduceIte, if_pos i0, mr_200_0 H, Option.bind_some, if_pos i1, c3, (show (1 = 0) = False from eq_false (by decide))]
      by_cases m1 : r < S.1 0 0
      · simp only [m1, decide_true, if_true, i10, if_false, mr_201_3 H, Option.bind_some, if_pos (mx_203 H (show r < 6 by omega)), nI_clamp (show r < 2 ^ 31 by omega), V.2.2.2.2.1 r (by omega)]
      · simp only [m1, decide_false, Bool.false_eq_true, if_false, if_true]
    · subst z
      refine ⟨h, ?_, ma_fr_r _ _ _⟩
      simp only [f_37, p0, p1, e1, e2, (show (nI 2 = (0 : Int32)) = False from eq_false (by decide)), (show (nI 2 = (1 : Int32)) = False from eq_false (by decide)), (show (nI 2 = (2 : Int32)) = True from eq_true rfl), ↓reduceIte, if_pos i0, mr_200_0 H, Option.bind_some, if_pos i1, c4, (show (2 = 0) = False from eq_false (by decide)), (show (2 = 1) = False from eq_false (by decide))]
      by_cases m1 : r < S.1 0 1
      · simp only [m1, decide_true, if_true, i10, if_false, mr_201_4 H, Option.bind_some, if_pos (mx_204 H (show r < 6 by omega)), nI_clamp (show r < 2 ^ 31 by omega), V.2.2.2.2.2.1 r m1]
      · simp only [m1, decide_false, Bool.false_eq_true, if_false, if_true]
    · subst z
      refine ⟨h, ?_, ma_fr_r _ _ _⟩
      simp only [f_37, p0, p1, e1, e2, (show (nI 3 = (0 : Int32)) = False from eq_false (by decide)), (show (nI 3 = (1 : Int32)) = False from eq_false (by decide)), (show (nI 3 = (2 : Int32)) = False from eq_false (by decide)), (show (nI 3 = (3 : Int32)) = True from eq_true rfl), ↓reduceIte, if_pos i0, mr_200_0 H, Option.bind_some, if_pos i1, c4, (show (3 = 0) = False from eq_false (by decide)), (show (3 = 1) = False from eq_false (by decide)), (show (3 = 2) = False from eq_false (by decide))]
      by_cases m1 : r < S.1 0 1
      · simp only [m1, decide_true, if_true, i10, if_false, mr_201_5 H, Option.bind_some, if_pos (mx_205 H (show r < 6 by omega)), nI_clamp (show r < 2 ^ 31 by omega), V.2.2.2.2.2.2.1 r m1]
      · simp only [m1, decide_false, Bool.false_eq_true, if_false, if_true]
    · subst z
      refine ⟨h, ?_, ma_fr_r _ _ _⟩
      simp only [f_37, p0, p1, e1, e2, (show (nI 4 = (0 : Int32)) = False from eq_false (by decide)), (show (nI 4 = (1 : Int32)) = False from eq_false (by decide)), (show (nI 4 = (2 : Int32)) = False from eq_false (by decide)), (show (nI 4 = (3 : Int32)) = False from eq_false (by decide)), (show (nI 4 = (4 : Int32)) = True from eq_true rfl), ↓reduceIte, if_pos i0, mr_200_0 H, Option.bind_some, if_pos i1, c4, (show (4 = 0) = False from eq_false (by decide)), (show (4 = 1) = False from eq_false (by decide)), (show (4 = 2) = False from eq_false (by decide)), (show (4 = 3) = False from eq_false (by decide))]
      by_cases m1 : r < S.1 0 1
      · simp only [m1, decide_true, if_true, i10, if_false, mr_201_6 H, Option.bind_some, if_pos (mx_206 H (show r < 6 by omega)), nI_clamp (show r < 2 ^ 31 by omega), V.2.2.2.2.2.2.2.1 r (by omega)]
      · simp only [m1, decide_false, Bool.false_eq_true, if_false, if_true]
    · subst z
      refine ⟨h, ?_, ma_fr_r _ _ _⟩
      simp only [f_37, p0, p1, e1, e2, (show (nI 5 = (0 : Int32)) = False from eq_false (by decide)), (show (nI 5 = (1 : Int32)) = False from eq_false (by decide)), (show (nI 5 = (2 : Int32)) = False from eq_false (by decide)), (show (nI 5 = (3 : Int32)) = False from eq_false (by decide)), (show (nI 5 = (4 : Int32)) = False from eq_false (by decide)), (show (nI 5 = (5 : Int32)) = True from eq_true rfl), ↓reduceIte, if_pos i0, mr_200_0 H, Option.bind_some, if_pos i1, c4, (show (5 = 0) = False from eq_false (by decide)), (show (5 = 1) = False from eq_false (by decide)), (show (5 = 2) = False from eq_false (by decide)), (show (5 = 3) = False from eq_false (by decide)), (show (5 = 4) = False from eq_false (by decide))]
      by_cases m1 : r < S.1 0 1
      · have e11 : f_11 N h 201 (nI r) 63 = some (nI (sp_pt S.1 r 63)) := c_11 H V O (s := 63) (by omega) (by decide) hN
        simp only [m1, decide_true, if_true, i10, if_false, e11, Option.bind_some]
      · simp only [m1, decide_false, Bool.false_eq_true, if_false, if_true]
    · refine ⟨h, ?_, ma_fr_r _ _ _⟩
      simp only [f_37, p0, p1, e1, e2, (show (nI q = (0 : Int32)) = False from eq_false (fun y => by have := (nI_eq (b := 0) (by omega) (by decide)).mp y; omega)), (show (nI q = (1 : Int32)) = False from eq_false (fun y => by have := (nI_eq (b := 1) (by omega) (by decide)).mp y; omega)), (show (nI q = (2 : Int32)) = False from eq_false (fun y => by have := (nI_eq (b := 2) (by omega) (by decide)).mp y; omega)), (show (nI q = (3 : Int32)) = False from eq_false (fun y => by have := (nI_eq (b := 3) (by omega) (by decide)).mp y; omega)), (show (nI q = (4 : Int32)) = False from eq_false (fun y => by have := (nI_eq (b := 4) (by omega) (by decide)).mp y; omega)), (show (nI q = (5 : Int32)) = False from eq_false (fun y => by have := (nI_eq (b := 5) (by omega) (by decide)).mp y; omega)), ↓reduceIte, (show (q = 0) = False from eq_false (by omega)), (show (q = 1) = False from eq_false (by omega)), (show (q = 2) = False from eq_false (by omega)), (show (q = 3) = False from eq_false (by omega)), (show (q = 4) = False from eq_false (by omega)), (show (q = 5) = False from eq_false (by omega))]
  · refine ⟨h, ?_, ma_fr_r _ _ _⟩
    have p0 : ((0 : Int32) ≤ nI w) = True := eq_true (nI_pos' hw)
    have p1 : (nI w < (100 : Int32)) = False := eq_false ((not_congr (lD100 hw)).mpr h1)
    simp only [f_37, p0, p1, ↓reduceIte, if_pos i0, mr_200_0 H, Option.bind_some, if_pos i1, lK100 (show 100 ≤ w by omega), c_6 H V O (show w - 100 < 2 ^ 31 by omega), if_neg h1]
theorem c_37n (x : Int32) (hx : x < 0) : f_37 N h 200 x = some (-1, h) := by
  have : ¬ (0 : Int32) ≤ x := by rw [Int32.not_le]; exact hx
  simp only [f_37, if_neg this]
theorem m_226n (H : ma_H h) (x : Int32) (hx : x < 0) : f_226 N h 217 x = some (-1, h) := by
  have n1 : ¬ x / 10 = 1 := ma_ndiv hx (k := 1) (by decide) (by decide)
  have n2 : ¬ x / 10 = 2 := ma_ndiv hx (k := 2) (by decide) (by decide)
  have n3 : ¬ x / 10 = 3 := ma_ndiv hx (k := 3) (by decide) (by decide)
  have n4 : ¬ x / 10 = 4 := ma_ndiv hx (k := 4) (by decide) (by decide)
  have n5 : ¬ x / 10 = 5 := ma_ndiv hx (k := 5) (by decide) (by decide)
  have y1 : x < 100 := by
    rw [Int32.lt_iff_toInt_lt] at hx ⊢
    have k3 : (0 : Int32).toInt = 0 := by decide
    have k4 : (100 : Int32).toInt = 100 := by decide
    omega
  have z0 : ¬ x = 0 := fun z => by rw [z] at hx; exact absurd hx (by decide)
  have z1 : ¬ x = 1 := fun z => by rw [z] at hx; exact absurd hx (by decide)
  have z2 : ¬ x = 2 := fun z => by rw [z] at hx; exact absurd hx (by decide)
  have z3 : ¬ x = 3 := fun z => by rw [z] at hx; exact absurd hx (by decide)
  have z4 : ¬ x = 4 := fun z => by rw [z] at hx; exact absurd hx (by decide)
  have z5 : ¬ x = 5 := fun z => by rw [z] at hx; exact absurd hx (by decide)
  simp only [f_226, f_225, if_pos y1, z0, z1, z2, z3, z4, z5, if_false, if_pos (mi_217 H), n1, n2, n3, n4, n5, Option.bind_some]
theorem m_226 {S : ma_S} (H : ma_H h) (D : ma_D h S) (O : ma_OK S.1) (hN : 3000 < N) {w : Nat} (hw : w < 2 ^ 31) : ∃ g, f_226 N h 217 (nI w) = some (sp_tl S w, g) ∧ ma_fr [233] [] h g := by
  obtain ⟨hM, c1, c2, c3, c4, _⟩ := D
  have hch := O.2.1
  have hme := O.1
  have i0 := mi_217 H
  unfold sp_tl
  by_cases h1 : w < 100
  · have p1 : (nI w < (100 : Int32)) = True := eq_true ((lD100 hw).mpr h1)
    rw [if_pos h1]
    by_cases h6 : w < 6
    · rw [show w / 10 = 0 by omega, show w - 10 * 0 = w by omega]
      unfold sp_t1 sp_t0
      have : w = 0 ∨ w = 1 ∨ w = 2 ∨ w = 3 ∨ w = 4 ∨ w = 5 := by omega
      rcases this with q | q | q | q | q | q
      · subst q; exact ⟨h, by simp only [f_226, p1, (show (nI 0 = (0 : Int32)) = True from eq_true rfl), ↓reduceIte, if_true, if_pos i0, c1], ma_fr_r _ _ _⟩
      · subst q; exact ⟨h, by simp only [f_226, p1, (show (nI 1 = (0 : Int32)) = False from eq_false (by decide)), (show (nI 1 = (1 : Int32)) = True from eq_true rfl), ↓reduceIte, if_true, if_pos i0, c2, (show (1 = 0) = False from eq_false (by decide))], ma_fr_r _ _ _⟩
      · subst q; exact ⟨h, by simp only [f_226, p1, (show (nI 2 = (0 : Int32)) = False from eq_false (by decide)), (show (nI 2 = (1 : Int32)) = False from eq_false (by decide)), (show (nI 2 = (2 : Int32)) = True from eq_true rfl), ↓reduceIte, if_true, if_pos i0, c3, (show (2 = 0) = False from eq_false (by decide)), (show (2 = 1) = False from eq_false (by decide))], ma_fr_r _ _ _⟩
      · subst q; exact ⟨h, by simp only [f_226, p1, (show (nI 3 = (0 : Int32)) = False from eq_false (by decide)), (show (nI 3 = (1 : Int32)) = False from eq_false (by decide)), (show (nI 3 = (2 : Int32)) = False from eq_false (by decide)), (show (nI 3 = (3 : Int32)) = True from eq_true rfl), ↓reduceIte, if_true, if_pos i0, m_203 H hM O hN, Option.bind_some, (show (3 = 0) = False from eq_false (by decide)), (show (3 = 1) = False from eq_false (by decide)), (show (3 = 2) = False from eq_false (by decide))], ma_fr_r _ _ _⟩
      · subst q
        obtain ⟨g, a1, a2⟩ := m_210 (N := N) H hM O hN
        exact ⟨g, by simp only [f_226, p1, (show (nI 4 = (0 : Int32)) = False from eq_false (by decide)), (show (nI 4 = (1 : Int32)) = False from eq_false (by decide)), (show (nI 4 = (2 : Int32)) = False from eq_false (by decide)), (show (nI 4 = (3 : Int32)) = False from eq_false (by decide)), (show (nI 4 = (4 : Int32)) = True from eq_true rfl), ↓reduceIte, if_true, if_pos i0, a1, Option.bind_some, (show (4 = 0) = False from eq_false (by decide)), (show (4 = 1) = False from eq_false (by decide)), (show (4 = 2) = False from eq_false (by decide)), (show (4 = 3) = False from eq_false (by decide))], a2⟩
      · subst q; exact ⟨h, by simp only [f_226, p1, (show (nI 5 = (0 : Int32)) = False from eq_false (by decide)), (show (nI 5 = (1 : Int32)) = False from eq_false (by decide)), (show (nI 5 = (2 : Int32)) = False from eq_false (by decide)), (show (nI 5 = (3 : Int32)) = False from eq_false (by decide)), (show (nI 5 = (4 : Int32)) = False from eq_false (by decide)), (show (nI 5 = (5 : Int32)) = True from eq_true rfl), ↓reduceIte, if_true, if_pos i0, c4, (show (5 = 0) = False from eq_false (by decide)), (show (5 = 1) = False from eq_false (by decide)), (show (5 = 2) = False from eq_false (by decide)), (show (5 = 3) = False from eq_false (by decide)), (show (5 = 4) = False from eq_false (by decide))], ma_fr_r _ _ _⟩
    · refine ⟨h, ?_, ma_fr_r _ _ _⟩
      have g0 : (nI w = 0) = False := eq_false ((not_congr (lE0 hw)).mpr (by omega))
      have g1 : (nI w = 1) = False := eq_false ((not_congr (lE1 hw)).mpr (by omega))
      have g2 : (nI w = 2) = False := eq_false ((not_congr (lE2 hw)).mpr (by omega))
      have g3 : (nI w = 3) = False := eq_false ((not_congr (lE3 hw)).mpr (by omega))
      have g4 : (nI w = 4) = False := eq_false ((not_congr (lE4 hw)).mpr (by omega))
      have g5 : (nI w = 5) = False := eq_false ((not_congr (lE5 hw)).mpr (by omega))
      obtain ⟨q, hq⟩ : ∃ q, q = w / 10 := ⟨_, rfl⟩
      obtain ⟨r, hr⟩ : ∃ r, r = w - 10 * q := ⟨_, rfl⟩
      rw [← hq, ← hr]
      have e1 : nI w / 10 = nI q := by rw [lL10 hw, ← hq]
      have e2 : nI w - nI q * 10 = nI r := by rw [lJ10, pk_sub (by omega), ← hr]
      have l0 : (nI (S.1 0 0) ≤ nI r) = (S.1 0 0 ≤ r) := propext (nI_leI (by omega) (by omega))
      have l1 : (nI (S.1 0 1) ≤ nI r) = (S.1 0 1 ≤ r) := propext (nI_leI (by omega) (by omega))
      have : q = 0 ∨ q = 1 ∨ q = 2 ∨ q = 3 ∨ q = 4 ∨ q = 5 ∨ 5 < q := by omega
      simp only [f_226, p1, g0, g1, g2, g3, g4, g5, ↓reduceIte, if_pos i0, f_225, e1, e2]
      unfold sp_t1
      rcases this with z | z | z | z | z | z | z
      · subst z
        have r6 : 5 < r := by omega
        simp only [(show (nI 0 = (1 : Int32)) = False from eq_false (by decide)), (show (nI 0 = (2 : Int32)) = False from eq_false (by decide)), (show (nI 0 = (3 : Int32)) = False from eq_false (by decide)), (show (nI 0 = (4 : Int32)) = False from eq_false (by decide)), (show (nI 0 = (5 : Int32)) = False from eq_false (by decide)), ↓reduceIte, Option.bind_some, sp_t0, (show (r = 0) = False from eq_false (by omega)), (show (r = 1) = False from eq_false (by omega)), (show (r = 2) = False from eq_false (by omega)), (show (r = 3) = False from eq_false (by omega)), (show (r = 4) = False from eq_false (by omega)), (show (r = 5) = False from eq_false (by omega))]
      · subst z
        simp only [(show (nI 1 = (0 : Int32)) = False from eq_false (by decide)), (show (nI 1 = (1 : Int32)) = True from eq_true rfl), ↓reduceIte, (show (1 = 0) = False from eq_false (by decide)), if_pos i0, hM.1, l0]
        by_cases m1 : r < S.1 0 0
        · simp only [if_neg (Nat.not_le.mpr m1), if_pos m1, mr_217_30 H, Option.bind_some, if_pos (mx_228 H (show r < 6 by omega)), nI_clamp (show r < 2 ^ 31 by omega), hM.2.2.1 r (by omega)]
        · simp only [if_pos (Nat.not_lt.mp m1), if_neg m1, Option.bind_some]
      · subst z
        simp only [(show (nI 2 = (0 : Int32)) = False from eq_false (by decide)), (show (nI 2 = (1 : Int32)) = False from eq_false (by decide)), (show (nI 2 = (2 : Int32)) = True from eq_true rfl), ↓reduceIte, (show (2 = 0) = False from eq_false (by decide)), (show (2 = 1) = False from eq_false (by decide)), if_pos i0, hM.2.1, l1]
        by_cases m1 : r < S.1 0 1
        · simp only [if_neg (Nat.not_le.mpr m1), if_pos m1, mr_217_31 H, Option.bind_some, if_pos (mx_229 H (show r < 6 by omega)), nI_clamp (show r < 2 ^ 31 by omega), hM.2.2.2.1 r (by omega)]
        · simp only [if_pos (Nat.not_lt.mp m1), if_neg m1, Option.bind_some]
      · subst z
        simp only [(show (nI 3 = (0 : Int32)) = False from eq_false (by decide)), (show (nI 3 = (1 : Int32)) = False from eq_false (by decide)), (show (nI 3 = (2 : Int32)) = False from eq_false (by decide)), (show (nI 3 = (3 : Int32)) = True from eq_true rfl), ↓reduceIte, (show (3 = 0) = False from eq_false (by decide)), (show (3 = 1) = False from eq_false (by decide)), (show (3 = 2) = False from eq_false (by decide)), if_pos i0, hM.2.1, l1]
        by_cases m1 : r < S.1 0 1
        · simp only [if_neg (Nat.not_le.mpr m1), if_pos m1, mr_217_32 H, Option.bind_some, if_pos (mx_230 H (show r < 6 by omega)), nI_clamp (show r < 2 ^ 31 by omega), hM.2.2.2.2.1 r (by omega)]
        · simp only [if_pos (Nat.not_lt.mp m1), if_neg m1, Option.bind_some]
      · subst z
        simp only [(show (nI 4 = (0 : Int32)) = False from eq_false (by decide)), (show (nI 4 = (1 : Int32)) = False from eq_false (by decide)), (show (nI 4 = (2 : Int32)) = False from eq_false (by decide)), (show (nI 4 = (3 : Int32)) = False from eq_false (by decide)), (show (nI 4 = (4 : Int32)) = True from eq_true rfl), ↓reduceIte, (show (4 = 0) = False from eq_false (by decide)), (show (4 = 1) = False from eq_false (by decide)), (show (4 = 2) = False from eq_false (by decide)), (show (4 = 3) = False from eq_false (by decide)), if_pos i0, hM.2.1, l1]
        by_cases m1 : r < S.1 0 1
        · simp only [if_neg (Nat.not_le.mpr m1), if_pos m1, mr_217_33 H, Option.bind_some, if_pos (mx_231 H (show r < 6 by omega)), nI_clamp (show r < 2 ^ 31 by omega), hM.2.2.2.2.2.1 r (by omega)]
        · simp only [if_pos (Nat.not_lt.mp m1), if_neg m1, Option.bind_some]
      · subst z
        simp only [(show (nI 5 = (0 : Int32)) = False from eq_false (by decide)), (show (nI 5 = (1 : Int32)) = False from eq_false (by decide)), (show (nI 5 = (2 : Int32)) = False from eq_false (by decide)), (show (nI 5 = (3 : Int32)) = False from eq_false (by decide)), (show (nI 5 = (4 : Int32)) = False from eq_false (by decide)), (show (nI 5 = (5 : Int32)) = True from eq_true rfl), ↓reduceIte, (show (5 = 0) = False from eq_false (by decide)), (show (5 = 1) = False from eq_false (by decide)), (show (5 = 2) = False from eq_false (by decide)), (show (5 = 3) = False from eq_false (by decide)), (show (5 = 4) = False from eq_false (by decide)), if_pos i0, hM.2.1, l1]
        by_cases m1 : r < S.1 0 1
        · simp only [if_neg (Nat.not_le.mpr m1), if_pos m1, m_207 H hM O (show r < 6 by omega) hN, Option.bind_some]
        · simp only [if_pos (Nat.not_lt.mp m1), if_neg m1, Option.bind_some]
      · simp only [(show (nI q = (0 : Int32)) = False from eq_false (fun y => by have := (nI_eq (b := 0) (by omega) (by decide)).mp y; omega)), (show (nI q = (1 : Int32)) = False from eq_false (fun y => by have := (nI_eq (b := 1) (by omega) (by decide)).mp y; omega)), (show (nI q = (2 : Int32)) = False from eq_false (fun y => by have := (nI_eq (b := 2) (by omega) (by decide)).mp y; omega)), (show (nI q = (3 : Int32)) = False from eq_false (fun y => by have := (nI_eq (b := 3) (by omega) (by decide)).mp y; omega)), (show (nI q = (4 : Int32)) = False from eq_false (fun y => by have := (nI_eq (b := 4) (by omega) (by decide)).mp y; omega)), (show (nI q = (5 : Int32)) = False from eq_false (fun y => by have := (nI_eq (b := 5) (by omega) (by decide)).mp y; omega)), ↓reduceIte, (show (q = 0) = False from eq_false (by omega)), (show (q = 1) = False from eq_false (by omega)), (show (q = 2) = False from eq_false (by omega)), (show (q = 3) = False from eq_false (by omega)), (show (q = 4) = False from eq_false (by omega)), (show (q = 5) = False from eq_false (by omega)), Option.bind_some]
  · refine ⟨h, ?_, ma_fr_r _ _ _⟩
    unfold sp_lk
    have e4 : w - 10 * (w / 10) = (w - 100) - 10 * ((w - 100) / 10) := by omega
    have p1 : (nI w < (100 : Int32)) = False := eq_false ((not_congr (lD100 hw)).mpr h1)
    have p2 : (nI w - 100) / 10 = nI ((w - 100) / 10) := by rw [lK100 (by omega), lL10 (by omega)]
    have p3 : nI w - nI w / 10 * 10 = nI ((w - 100) - 10 * ((w - 100) / 10)) := by rw [lL10 hw, lJ10, pk_sub (by omega), e4]
    simp only [f_226, p1, p2, p3, if_neg h1, ↓reduceIte, lA160 hw]
    by_cases q1 : (w - 100) / 10 < S.1 0 1 <;> by_cases q2 : (w - 100) - 10 * ((w - 100) / 10) < 6 <;> by_cases q4 : 160 ≤ w <;> first | (exfalso; omega) | simp (disch := first | exact mi_217 H | exact mx_232 H (by omega) | omega) only [nI_1, nI_add, pk_mul, pk_sub, nI_leI, nI_ltI, nI_eq, nI_clamp, Option.bind_some, ma_b0, ma_p0, if_true, if_false, mE, mF, mI_lt, mI_le, mI_eq, mI_s, nm_le, nm_lt, mn_le, mn_lt, nm_eq, mn_eq, if_pos, if_neg, ma_Ik, ma_R_pI, ma_R_pW, ma_I_pW, ma_1_pI, ma_1_pW, ma_bit, ma_has, ma_shl, fa_or, fa_and, lA6, lB6, lC6, lD6, lE6, lF6, lG6, lH6, lK6, lI6, lJ6, lL6, m_201 H hM O, ma_at_nI, mr_217_34 H, hM.2.2.2.2.2.2, q1, q2, q4, decide_true, decide_false, Bool.true_eq_false, Bool.false_eq_true, i10, i01, true_or, or_true, false_or, or_false, true_and, and_true, and_false, false_and, not_true_eq_false, not_false_eq_true, if_true, if_false, eq_self]
end

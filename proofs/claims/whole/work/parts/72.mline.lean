/-! text: the model's lines -/
abbrev tx_fl : List (Nat × Nat) := [(217, 9), (217, 11), (217, 12), (217, 13), (217, 15), (217, 16), (217, 17), (217, 20), (217, 21), (217, 22), (227, 0), (227, 1), (227, 2), (227, 3)]
/-- the fault met first, all places below q -/
def tx_P (h : pb_HP) (p : Nat × Nat) (q : Nat) : Prop := pb_I h 217 16 = nI p.1 ∧ p.1 ≤ 4 ∧ (p.1 ≠ 0 → pb_I h 217 17 = nI (p.2 - 1) ∧ 1 ≤ p.2 ∧ p.2 ≤ q)
theorem tx_P_m {h : pb_HP} {p : Nat × Nat} {q r : Nat} (P : tx_P h p q) (hr : q ≤ r) : tx_P h p r := ⟨P.1, P.2.1, fun z => by have := P.2.2 z; exact ⟨this.1, this.2.1, by omega⟩⟩
theorem tx_P_e {h g : pb_HP} {p : Nat × Nat} {q : Nat} (P : tx_P h p q) (e1 : pb_I g 217 16 = pb_I h 217 16) (e2 : pb_I g 217 17 = pb_I h 217 17) : tx_P g p q := ⟨e1.trans P.1, P.2.1, fun z => by have := P.2.2 z; exact ⟨e2.trans this.1, this.2⟩⟩
theorem tx_cmp (x y : Int64) : lg_cmp x y = 0 ↔ x = y := by
  unfold lg_cmp
  by_cases a : x > y
  · rw [if_pos a]
    refine ⟨fun q => absurd q (by decide), fun q => ?_⟩
    rw [q] at a
    exact absurd a (by simp)
  · rw [if_neg a]
    by_cases b : x = y
    · rw [if_pos b]; exact ⟨fun _ => b, fun _ => rfl⟩
    · rw [if_neg b]; exact ⟨fun q => absurd q (by decide), fun q => absurd q b⟩
theorem sp_km_3 {k : Nat} (h : k ≤ 4) : (nI (sp_km k) = 3) ↔ k = 2 := by
  have : ∀ k, k ≤ 4 → ((nI (sp_km k) = 3) ↔ k = 2) := by decide +kernel
  exact this k h
theorem sp_km_4 {k : Nat} (h : k ≤ 4) : (nI (sp_km k) = 4) ↔ k = 3 := by
  have : ∀ k, k ≤ 4 → ((nI (sp_km k) = 4) ↔ k = 3) := by decide +kernel
  exact this k h
theorem sp_km_2 {k : Nat} (h : k ≤ 4) : (nI (sp_km k) = 2) ↔ k = 1 := by
  have : ∀ k, k ≤ 4 → ((nI (sp_km k) = 2) ↔ k = 1) := by decide +kernel
  exact this k h
theorem sp_km_0 {k : Nat} (h : k ≤ 4) : (nI (sp_km k) = 0) ↔ k = 0 := by
  have : ∀ k, k ≤ 4 → ((nI (sp_km k) = 0) ↔ k = 0) := by decide +kernel
  exact this k h
theorem pb_hb_ex2 {α β : Type} {P : α → β → Prop} {E : pb_HP} {k : pb_HP → Option (α × β)} (h : ∀ g, g = E → ∃ r x, k g = some (r, x) ∧ P r x) : ∃ r x, pb_hb E k = some (r, x) ∧ P r x := h E rfl
theorem tx_M_e {h g : pb_HP} {B : Nat → Int32} {n i : Nat} (M : tx_M h B n i) (c : ∀ k, pb_I g 217 k = pb_I h 217 k) (j : pb_J g = pb_J h) : tx_M g B n i := by
  unfold tx_M
  rw [c, c, c, c, j]
  exact M
section
variable {h : pb_HP} {N n e l b : Nat} {B : Nat → Int32} {p : Nat × Nat}
theorem m_182 (H : ma_H h) {q : Nat} (P : tx_P h p q) (hq : q < 2 ^ 30) {f : Nat} (hf : f ≤ 4) : ∃ g, f_182 h 217 (nI f) (nI q) = some g ∧ ma_fr [] [(217, 16), (217, 17)] h g ∧ tx_P g (sp_bl p f q) (q + 1) := by
  unfold f_182 sp_bl f_182_31
  have p4 := P.2.1
  rw [if_pos (mi_217 H), P.1]
  by_cases c : p.1 = 0
  · rw [if_pos (show nI p.1 = 0 by rw [c]; rfl), if_pos c, if_pos (mi_217 H)]
    refine ⟨_, rfl, ma_fr_pI (ma_fr_pI (ma_fr_r _ _ _) (.inr (by decide)) _) (.inr (by decide)) _, ?_, hf, fun z => ⟨?_, by dsimp only; omega, by dsimp only; omega⟩⟩
    · rw [ma_Ik, if_pos rfl, if_neg (by decide), ma_Ik, if_pos rfl, if_pos rfl]
    · rw [ma_Ik, if_pos rfl, if_pos rfl]; rfl
  · have x := P.2.2 c
    rw [if_neg (fun z => c ((lE0 (show p.1 < 2 ^ 31 by omega)).mp z)), if_neg c, x.1, if_neg (fun z => by have := (nI_ltI (show q < 2 ^ 31 by omega) (show p.2 - 1 < 2 ^ 31 by omega)).mp z; omega), if_pos (fun z => by have := (nI_eq (show q < 2 ^ 31 by omega) (show p.2 - 1 < 2 ^ 31 by omega)).mp z; omega)]
    exact ⟨_, rfl, ma_fr_r _ _ _, tx_P_m P (by omega)⟩
theorem m_181 (H : ma_H h) {q : Nat} (e11 : pb_I h 217 11 = nI q) : ∃ g, f_181 h 217 = some (0, g) ∧ ma_fr [] [(217, 15)] h g ∧ pb_I g 217 15 = nI q := by
  unfold f_181
  rw [if_pos (mi_217 H), e11]
  exact ⟨_, rfl, ma_fr_pI (ma_fr_r _ _ _) (.inr (by decide)) _, by rw [ma_Ik, if_pos rfl, if_pos rfl]⟩
theorem m_168v {a lo hi : Nat} (ha : a < 2 ^ 31) (hlo : lo < 2 ^ 31) (hhi : hi < 2 ^ 31) : f_168 (nI a) (nI lo) (nI hi) = some (if lo ≤ a ∧ a ≤ hi then 1 else 0) := ma_in ha hlo hhi
/-- k numbers of a line are taken -/
def tx_R (h0 h : pb_HP) (B : Nat → Int32) (n e l b k : Nat) (p : Nat × Nat) : Prop := ma_fr [] tx_fl h0 h ∧ tx_E h B n ∧ tx_M h B n (sp_te B n e k) ∧ tx_P h (sp_fn B n e l p k) (sp_te B n e k) ∧ (∃ w : Bool, pb_I h 217 22 = (if w then 1 else 0) ∧ (w = true → ∀ j, j < k → sp_gd B n e l j = true) ∧ ((sp_fn B n e l p k).1 = 0 → w = true)) ∧ (∀ j, j < k → pb_I h 227 (b + j) = nI (sp_vl B n e j)) ∧ (∀ j, j < k → (sp_tn B n e j).1 = 2) ∧ pb_I h 217 20 = pb_I h0 217 20 ∧ pb_I h 217 21 = pb_I h0 217 21 ∧ ∀ j, j < b ∨ b + k ≤ j → pb_I h 227 j = pb_I h0 227 j
theorem tx_E_fr {g : pb_HP} {F : List (Nat × Nat)} {L : List Nat} (E : tx_E h B n) (f : ma_fr L F h g) (h1 : 217 ∉ L) (h2 : (217, 10) ∉ F) (h3 : 218 ∉ L) (h4 : 218 ∉ F.map Prod.fst) : tx_E g B n := ⟨ma_H_fr E.1 f, by rw [f.2.2 217 10 h1 h2]; exact E.2.1, fun j hj => by rw [ma_fr_o f h3 h4]; exact E.2.2 j hj⟩
theorem m_st (h0 : pb_HP) (f0 : ma_fr [] tx_fl h0 h) (E : tx_E h B n) (hB : ∀ j, j < n → (B j).toInt8.toInt32 = B j) (hn : n ≤ 600) (he : e ≤ n) (e9 : pb_I h 217 9 = nI e) (P : tx_P h p e) (e22 : pb_I h 217 22 = 1) (e20 : pb_I h 217 20 = pb_I h0 217 20) (e21 : pb_I h 217 21 = pb_I h0 217 21) (e27 : pb_I h 227 = pb_I h0 227) (hN : 3000 < N) : ∃ g, f_180 N h 217 = some g ∧ tx_R h0 g B n e l b 0 p := by
  obtain ⟨g, a1, a2, a3⟩ := m_180 (N := N) E hB hn he e9 hN
  refine ⟨g, a1, ma_fr_t f0 (ma_fr_w a2 (by decide) (by decide)), tx_E_fr E a2 (by decide) (by decide) (by decide) (by decide), a3, tx_P_e P (a2.2.2 217 16 (by decide) (by decide)) (a2.2.2 217 17 (by decide) (by decide)), ⟨true, by rw [a2.2.2 217 22 (by decide) (by decide)]; exact e22, fun _ j hj => absurd hj (Nat.not_lt_zero j), fun _ => rfl⟩, fun j hj => absurd hj (Nat.not_lt_zero j), fun j hj => absurd hj (Nat.not_lt_zero j), ?_, ?_, fun j _ => ?_⟩
  · rw [a2.2.2 217 20 (by decide) (by decide)]; exact e20
  · rw [a2.2.2 217 21 (by decide) (by decide)]; exact e21
  · rw [ma_fr_o a2 (by decide) (by decide), e27]
theorem m_tk {h0 : pb_HP} {k : Nat} (R : tx_R h0 h B n e l b k p) (hB : ∀ j, j < n → (B j).toInt8.toInt32 = B j) (hn : n ≤ 600) (he : e ≤ n) (hl : l < 14) (hk : k < sp_nc l) (hb : b ≤ 1) (hN : 3000 < N) : ((sp_tn B n e k).1 = 2 ∧ ∃ g, f_183 N h 217 (nI (b + k)) (nI (tx_lo l k)) (nI (tx_hi l k)) = some (1, g) ∧ tx_R h0 g B n e l b (k + 1) p) ∨ ((sp_tn B n e k).1 ≠ 2 ∧ ∃ g, f_183 N h 217 (nI (b + k)) (nI (tx_lo l k)) (nI (tx_hi l k)) = some (0, g) ∧ ma_fr [] tx_fl h0 g ∧ pb_I g 217 15 = nI (sp_tn B n e k).2.1) := by
  obtain ⟨f0, E, M, P, ⟨w, w1, w2, w3⟩, rd, ty, x20, x21, x27⟩ := R
  have H := E.1
  have T := sp_S3 l hl
  have t := ((T.2 k (by omega)).1 hk).2
  have le := sp_te_le (B := B) he k
  have tb := sp_tk_b (B := B) le
  have M2 : pb_I h 217 12 = nI (sp_km (sp_tn B n e k).1) := M.2.2.1
  have M1 : pb_I h 217 11 = nI (sp_tn B n e k).2.1 := M.2.1
  have M0 : pb_I h 217 9 = nI (sp_te B n e (k + 1)) := M.1
  have tb4 : (sp_tn B n e k).1 ≤ 4 := tb.2.2.2.1
  have lo1 : tx_lo l k ≤ 1 := by unfold tx_lo; split <;> omega
  by_cases c : (sp_tn B n e k).1 = 2
  · left
    have lt : (sp_tn B n e k).2.1 < sp_te B n e (k + 1) := tb.2.2.2.2.2 (by show ¬ (sp_tn B n e k).1 = 0; omega)
    have ge : sp_te B n e k ≤ (sp_tn B n e k).2.1 := tb.1
    have l1 : sp_te B n e (k + 1) ≤ n := sp_te_le he (k + 1)
    have vl := sp_vl_lt hB he c
    have M3 : pb_I h 217 13 = nI (sp_vl B n e k) := M.2.2.2.1 c
    have cb : (nI (b + k)).toNatClampNeg = b + k := nI_clamp (by omega)
    obtain ⟨h2, e2⟩ : ∃ g, g = pb_pI h 227 (b + k) (nI (sp_vl B n e k)) := ⟨_, rfl⟩
    have f2 : ma_fr [] tx_fl h h2 := by
      rw [e2]
      refine ma_fr_pI (ma_fr_r _ _ _) (.inr ?_) _
      have : b + k = 0 ∨ b + k = 1 ∨ b + k = 2 ∨ b + k = 3 := by omega
      rcases this with q | q | q | q <;> rw [q] <;> decide
    have H2 := ma_H_fr H f2
    have c17 : ∀ j, pb_I h2 217 j = pb_I h 217 j := fun j => by rw [e2, ma_Ik, if_neg (by decide)]
    have E2 : tx_E h2 B n := ⟨H2, by rw [c17]; exact E.2.1, fun j hj => by rw [e2, ma_Ik, if_neg (by decide)]; exact E.2.2 j hj⟩
    have P2 : tx_P h2 (sp_fn B n e l p k) (sp_tn B n e k).2.1 := tx_P_m (tx_P_e P (c17 16) (c17 17)) ge
    have r2 : ∀ j, j < k + 1 → pb_I h2 227 (b + j) = nI (sp_vl B n e j) := fun j hj => by
      rw [e2, ma_Ik, if_pos rfl]
      by_cases q : j = k
      · rw [if_pos (by omega), q]
      · rw [if_neg (by omega)]; exact rd j (by omega)
    have o2 : ∀ j, j < b ∨ b + (k + 1) ≤ j → pb_I h2 227 j = pb_I h0 227 j := fun j hj => by
      rw [e2, ma_Ik, if_pos rfl, if_neg (by omega)]; exact x27 j (by omega)
    have ty2 : ∀ j, j < k + 1 → (sp_tn B n e j).1 = 2 := fun j hj => by
      by_cases q : j = k
      · rw [q]; exact c
      · exact ty j (by omega)
    have u : f_183 N h 217 (nI (b + k)) (nI (tx_lo l k)) (nI (tx_hi l k)) = (if ¬ (if tx_lo l k ≤ sp_vl B n e k ∧ sp_vl B n e k ≤ tx_hi l k then (1 : Int32) else 0) = 0 then (f_183_49 N h2 217) else ((f_182 h2 217 2 (nI (sp_tn B n e k).2.1)).bind fun h9 => (if pb_is h9 217 11 then (f_183_49 N (pb_pI h9 217 22 0) 217) else none))) := by
      unfold f_183
      rw [if_pos (mi_217 H), M2, if_pos ((sp_km_3 tb4).mpr c), mr_217_19 H, Option.bind_some, if_pos (mx_227 H (show b + k < 4 by omega)), cb, M3, ← e2, c17, M3, m_168v (by omega) (by omega) (by omega), Option.bind_some, c17, M1]
    have nx : ∀ h3, ma_fr [] tx_fl h h3 → tx_E h3 B n → pb_I h3 217 9 = nI (sp_te B n e (k + 1)) → tx_P h3 (sp_fn B n e l p (k + 1)) (sp_te B n e (k + 1)) → (∃ w : Bool, pb_I h3 217 22 = (if w then 1 else 0) ∧ (w = true → ∀ j, j < k + 1 → sp_gd B n e l j = true) ∧ ((sp_fn B n e l p (k + 1)).1 = 0 → w = true)) → pb_I h3 227 = pb_I h2 227 → pb_I h3 217 20 = pb_I h 217 20 → pb_I h3 217 21 = pb_I h 217 21 → ∃ g, f_183_49 N h3 217 = some (1, g) ∧ tx_R h0 g B n e l b (k + 1) p := fun h3 f3 E3 q9 P3 ⟨w, y1, y2, y3⟩ q27 q20 q21 => by
      obtain ⟨g, a1, a2, a3⟩ := m_180 (N := N) E3 hB hn l1 q9 hN
      refine ⟨g, ?_, ma_fr_t f0 (ma_fr_t f3 (ma_fr_w a2 (by decide) (by decide))), tx_E_fr E3 a2 (by decide) (by decide) (by decide) (by decide), a3, tx_P_e P3 (a2.2.2 217 16 (by decide) (by decide)) (a2.2.2 217 17 (by decide) (by decide)), ⟨w, by rw [a2.2.2 217 22 (by decide) (by decide)]; exact y1, y2, y3⟩, fun j hj => ?_, ty2, ?_, ?_, fun j hj => ?_⟩
      · unfold f_183_49
        rw [if_pos (mi_217 E3.1), a1]; rfl
      · rw [ma_fr_o a2 (by decide) (by decide), q27]; exact r2 j hj
      · rw [a2.2.2 217 20 (by decide) (by decide), q20]; exact x20
      · rw [a2.2.2 217 21 (by decide) (by decide), q21]; exact x21
      · rw [ma_fr_o a2 (by decide) (by decide), q27]; exact o2 j hj
    refine ⟨c, ?_⟩
    rw [u]
    by_cases cg : sp_gd B n e l k = true
    · have c' : tx_lo l k ≤ sp_vl B n e k ∧ sp_vl B n e k ≤ tx_hi l k := by unfold sp_gd at cg; simpa using cg
      rw [if_pos c', if_pos (by decide)]
      refine nx h2 f2 E2 (by rw [c17]; exact M0) ?_ ⟨w, by rw [c17]; exact w1, fun q j hj => ?_, fun q => ?_⟩ rfl (c17 20) (c17 21)
      · rw [sp_fn_s, if_pos cg]; exact tx_P_m P2 (by omega)
      · by_cases z : j = k
        · rw [z]; exact cg
        · exact w2 q j (by omega)
      · rw [sp_fn_s, if_pos cg] at q; exact w3 q
    · have c' : ¬ (tx_lo l k ≤ sp_vl B n e k ∧ sp_vl B n e k ≤ tx_hi l k) := fun q => cg (by unfold sp_gd; simpa using q)
      obtain ⟨g3, b1, b2, b3⟩ := m_182 H2 P2 (by omega) (f := 2) (by decide)
      have b1 : f_182 h2 217 2 (nI (sp_tn B n e k).2.1) = some g3 := b1
      have H3 := ma_H_fr H2 b2
      rw [if_neg c', if_neg (by decide), b1, Option.bind_some, if_pos (mi_217 H3)]
      have f3 : ma_fr [] tx_fl h (pb_pI g3 217 22 0) := ma_fr_pI (ma_fr_t f2 (ma_fr_w b2 (by decide) (by decide))) (.inr (by decide)) _
      have c3 : ∀ j, j ≠ 22 → pb_I (pb_pI g3 217 22 0) 217 j = pb_I g3 217 j := fun j q => by rw [ma_Ik, if_pos rfl, if_neg q]
      refine nx _ f3 (tx_E_fr E f3 (by decide) (by decide) (by decide) (by decide)) ?_ ?_ ⟨false, ?_, fun q => absurd q (by decide), fun q => ?_⟩ ?_ ?_ ?_
      · rw [c3 9 (by decide), b2.2.2 217 9 (by decide) (by decide), c17]; exact M0
      · rw [sp_fn_s, if_neg cg]; exact tx_P_m (tx_P_e b3 (c3 16 (by decide)) (c3 17 (by decide))) (by omega)
      · rw [ma_Ik, if_pos rfl, if_pos rfl]; rfl
      · rw [sp_fn_s, if_neg cg] at q; exact absurd q (sp_bl_0 (by decide))
      · rw [ma_I_pI, if_neg (by decide), ma_fr_o b2 (by decide) (by decide)]
      · rw [c3 20 (by decide), b2.2.2 217 20 (by decide) (by decide), c17]
      · rw [c3 21 (by decide), b2.2.2 217 21 (by decide) (by decide), c17]
  · right
    obtain ⟨g, a1, a2, a3⟩ := m_181 H M1
    refine ⟨c, g, ?_, ma_fr_t f0 (ma_fr_w a2 (by decide) (by decide)), a3⟩
    unfold f_183
    rw [if_pos (mi_217 H), M2, if_neg (fun z => c ((sp_km_3 tb4).mp z)), a1]
    rfl
theorem m_184 (H : ma_H h) {c a most q : Nat} (hc : c < 161) (e : pb_I h 226 c = nI a) (ha : a ≤ most) (hm : most ≤ 40) (P : tx_P h p q) (hq : q < 2 ^ 30) : ∃ g, f_184 h 217 (nI c) (nI most) (nI q) = some g ∧ ma_fr [] [(217, 16), (217, 17)] h g ∧ tx_P g (if most ≤ a then sp_bl p 3 q else p) (q + 1) := by
  unfold f_184
  rw [if_pos (mi_217 H), mr_217_18 H, Option.bind_some, if_pos (mx_226 H hc), nI_clamp (by omega), e]
  by_cases z : most ≤ a
  · obtain ⟨g, a1, a2, a3⟩ := m_182 H P hq (f := 3) (by decide)
    have a1 : f_182 h 217 3 (nI q) = some g := a1
    rw [if_neg (not_not_intro (show nI a = nI most by congr 1; omega)), a1, if_pos z]
    exact ⟨g, rfl, a2, a3⟩
  · rw [if_pos (fun y => by have := (nI_eq (show a < 2 ^ 31 by omega) (show most < 2 ^ 31 by omega)).mp y; omega), if_neg z]
    exact ⟨h, rfl, ma_fr_r _ _ _, tx_P_m P (by omega)⟩
end
/-- the model's county as it is being told -/
def tx_NK (h : pb_HP) (K : ma_K) : Prop := pb_I h 226 0 = nI (K 0 0) ∧ pb_I h 226 1 = nI (K 0 1) ∧ (∀ m, m < 6 → pb_I h 226 (2 + m) = nI (K 1 m)) ∧ (∀ m, m < 6 → pb_I h 226 (8 + m) = nI (K 2 m)) ∧ (∀ m, m < 6 → pb_I h 226 (14 + m) = nI (K 3 m)) ∧ (∀ m, m < 6 → pb_I h 226 (20 + m) = nI (K 4 m)) ∧ (∀ m, m < 6 → pb_I h 226 (26 + m) = nI (K 5 m)) ∧ ∀ m, m < 36 → pb_I h 226 (32 + m) = nI (K 6 m)
def tx_N (h : pb_HP) (s : Nat) (D : tx_T) : Prop := (s = 0 → tx_NK h D.1 ∧ pb_I h 217 20 = mI D.2.1.1 ∧ pb_I h 217 21 = mI D.2.1.2) ∧ (s = 1 → ma_Ly h 226 0 4 D.2.2.1) ∧ (s = 2 → ma_Ly h 226 0 3 D.2.2.2)
def tx_W (h : pb_HP) (s : Nat) : Prop := (s = 0 → ∃ a b, a ≤ 6 ∧ b ≤ 6 ∧ pb_I h 226 0 = nI a ∧ pb_I h 226 1 = nI b) ∧ (s = 1 → ∃ a, a ≤ 40 ∧ pb_I h 226 0 = nI a) ∧ (s = 2 → ∃ a, a ≤ 8 ∧ pb_I h 226 0 = nI a)

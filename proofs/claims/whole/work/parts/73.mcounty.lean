/-! text: the model's lines of a county -/
/-- what comes of a line's numbers -/
def tx_O (h g : pb_HP) (B : Nat → Int32) (n e l s : Nat) (p : Nat × Nat) (D : tx_T) (r : Int32) : Prop := ma_fr [226] tx_fl h g ∧ ((r = 0 ∧ sp_nb B n e (sp_nc l) < sp_nc l ∧ pb_I g 217 15 = nI (sp_tn B n e (sp_nb B n e (sp_nc l))).2.1) ∨ (r = 1 ∧ sp_nb B n e (sp_nc l) = sp_nc l ∧ tx_M g B n (sp_te B n e (sp_nc l)) ∧ tx_P g (sp_fn B n e l p (sp_nc l)) (sp_te B n e (sp_nc l)) ∧ tx_W g s ∧ ((sp_fn B n e l p (sp_nc l)).1 = 0 → tx_N g s (tx_st l (sp_vl B n e) D))))
theorem sp_nb_u {B : Nat → Int32} {n e c r : Nat} (h1 : ∀ j, j < r → (sp_tn B n e j).1 = 2) (h2 : r < c → (sp_tn B n e r).1 ≠ 2) (h3 : r ≤ c) : sp_nb B n e c = r := by
  have b := sp_nb_b B n e c
  rcases Nat.lt_trichotomy (sp_nb B n e c) r with z | z | z
  · exact absurd (h1 _ z) (b.2.2 (by omega))
  · exact z
  · exact absurd (b.2.1 r z) (h2 (by omega))
theorem tx_full {p : Nat × Nat} {a most q l : Nat} {D : tx_T} (h : p.1 = 0 → (most ≤ a ↔ tx_fu D l = true)) : (if most ≤ a then sp_bl p 3 q else p) = (if tx_fu D l then sp_bl p 3 q else p) := by
  by_cases c : p.1 = 0
  · have := h c
    by_cases d : most ≤ a
    · rw [if_pos d, if_pos (this.mp d)]
    · rw [if_neg d, if_neg (fun z => d (this.mpr z))]
  · have : sp_bl p 3 q = p := if_neg c
    rw [this]
    split <;> split <;> rfl
theorem tx_q0 {p : Nat × Nat} {q l : Nat} {D : tx_T} (h : (if tx_fu D l then sp_bl p 3 q else p).1 = 0) : p.1 = 0 ∧ tx_fu D l = false := by
  split at h
  · exact absurd h (sp_bl_0 (by decide))
  · rename_i c; exact ⟨h, by simpa using c⟩
section
variable {h : pb_HP} {N n e l b s : Nat} {B : Nat → Int32} {p : Nat × Nat} {D : tx_T}
theorem m_tk2 {h0 : pb_HP} {k : Nat} {kk lo hi : Int32} (R : tx_R h0 h B n e l b k p) (hB : ∀ j, j < n → (B j).toInt8.toInt32 = B j) (hn : n ≤ 600) (he : e ≤ n) (hl : l < 14) (hk : k < sp_nc l) (hb : b ≤ 1) (hN : 3000 < N) (ek : kk = nI (b + k)) (el : lo = nI (tx_lo l k)) (eh : hi = nI (tx_hi l k)) : ((sp_tn B n e k).1 = 2 ∧ ∃ g, f_183 N h 217 kk lo hi = some (1, g) ∧ tx_R h0 g B n e l b (k + 1) p) ∨ (∃ g, f_183 N h 217 kk lo hi = some (0, g) ∧ ma_fr [] tx_fl h0 g ∧ sp_nb B n e (sp_nc l) < sp_nc l ∧ pb_I g 217 15 = nI (sp_tn B n e (sp_nb B n e (sp_nc l))).2.1) := by
  subst ek el eh
  rcases m_tk (N := N) R hB hn he hl hk hb hN with ⟨c, q⟩ | ⟨c, g, a1, a2, a3⟩
  · exact .inl ⟨c, q⟩
  · have u := sp_nb_u (c := sp_nc l) R.2.2.2.2.2.2.1 (fun _ => c) (by omega)
    exact .inr ⟨g, a1, a2, by omega, by rw [u]; exact a3⟩
/-- what a line begins with -/
def tx_J (h : pb_HP) (B : Nat → Int32) (n e at' s : Nat) (p : Nat × Nat) (D : tx_T) : Prop := tx_E h B n ∧ pb_I h 217 9 = nI e ∧ at' < e ∧ tx_P h p at' ∧ pb_I h 217 22 = 1 ∧ tx_W h s ∧ (p.1 = 0 → tx_N h s D) ∧ tx_G D
theorem tx_R_O0 {g : pb_HP} (f : ma_fr [] tx_fl h g) (c : sp_nb B n e (sp_nc l) < sp_nc l) (w : pb_I g 217 15 = nI (sp_tn B n e (sp_nb B n e (sp_nc l))).2.1) : tx_O h g B n e l s p D 0 := ⟨ma_fr_w f (by decide) (by decide), .inl ⟨rfl, c, w⟩⟩
theorem m_185 {at' : Nat} (J : tx_J h B n e at' 0 p D) (hB : ∀ j, j < n → (B j).toInt8.toInt32 = B j) (hn : n ≤ 600) (he : e ≤ n) (hN : 3000 < N) : ∃ r g, f_185 N h 217 (nI at') = some (r, g) ∧ tx_O h g B n e 0 0 (if tx_fu D 0 then sp_bl p 3 at' else p) D r := by
  obtain ⟨E, e9, ha, P, e22, W, Nn, G⟩ := J
  have H := E.1
  obtain ⟨a, b', a6, b6, ea, eb⟩ := W.1 rfl
  have cnt : p.1 = 0 → a = D.1 0 0 := fun z => by
    have := ((Nn z).1 rfl).1.1
    exact (nI_eq (by omega) (by have := G.1; omega)).mp (ea.symm.trans this)
  obtain ⟨g1, y1, y2, y3⟩ := m_184 (c := 0) (most := 6) (q := at') H (by decide) ea a6 (by decide) P (by omega)
  rw [tx_full (l := 0) (D := D) (fun z => by rw [cnt z]; unfold tx_fu; rw [if_pos rfl]; simp)] at y3
  have y1 : f_184 h 217 0 6 (nI at') = some g1 := y1
  have H1 := ma_H_fr H y2
  generalize hp' : (if tx_fu D 0 then sp_bl p 3 at' else p) = p' at y3 ⊢
  obtain ⟨g2, z1, R0⟩ := m_st (N := N) (l := 0) (b := 0) (p := p') (h := g1) h (ma_fr_w y2 (by decide) (by decide)) (tx_E_fr E y2 (by decide) (by decide) (by decide) (by decide)) hB hn he (by rw [y2.2.2 217 9 (by decide) (by decide)]; exact e9) (tx_P_m y3 (by omega)) (by rw [y2.2.2 217 22 (by decide) (by decide)]; exact e22) (y2.2.2 217 20 (by decide) (by decide)) (y2.2.2 217 21 (by decide) (by decide)) (ma_fr_o y2 (by decide) (by decide)) hN
  have H2 := R0.2.1.1
  unfold f_185
  rw [if_pos (mi_217 H), y1, Option.bind_some, if_pos (mi_217 H1), z1, Option.bind_some, if_pos (mi_217 H2)]
  rcases m_tk2 (N := N) (kk := 0) (lo := 0) (hi := 9) R0 hB hn he (by decide) (by decide) (by decide) hN rfl (by decide) (by decide) with ⟨_, g3, w1, R1⟩ | ⟨g3, w1, w2, w3, w4⟩
  · have H3 := R1.2.1.1
    have u := sp_nb_u (c := sp_nc 0) R1.2.2.2.2.2.2.1 (fun q => absurd q (by decide)) (by decide)
    have k6 : pb_I g3 226 = pb_I h 226 := ma_fr_o R1.1 (by decide) (by decide)
    have r0 : pb_I g3 227 0 = nI (sp_vl B n e 0) := R1.2.2.2.2.2.1 0 (by decide)
    have x0 : pb_ar g3 226 12 0 := mx_226 H3 (j := 0) (by decide)
    have x1 : pb_ar g3 227 12 0 := mx_227 H3 (j := 0) (by decide)
    have e3 : pb_I g3 226 0 = nI a := by rw [k6]; exact ea
    rw [w1, Option.bind_some]
    dsimp only
    rw [if_pos (by decide), if_pos (mi_217 H3), mr_217_18 H3, Option.bind_some, if_pos x0]
    simp only [tx_z0, e3]
    by_cases c : 6 ≤ a
    · rw [if_pos ((lA6 (show a < 2 ^ 31 by omega)).mpr c)]
      refine ⟨1, g3, rfl, ma_fr_w R1.1 (by decide) (by decide), .inr ⟨rfl, u, R1.2.2.1, R1.2.2.2.1, ⟨fun _ => ⟨a, b', a6, b6, e3, by rw [k6]; exact eb⟩, fun q => absurd q (by decide), fun q => absurd q (by decide)⟩, fun q => ?_⟩⟩
      have q1 := (sp_fn_0 _ q).1
      rw [← hp'] at q1
      have q2 := tx_q0 q1
      have := cnt q2.1
      have q3 := q2.2
      unfold tx_fu at q3
      rw [if_pos rfl] at q3
      exact absurd q3 (by simp; omega)
    · have k0 : pb_I (pb_pI g3 226 (2 + a) (nI (sp_vl B n e 0))) 226 0 = nI a := by rw [ma_Ik, if_pos rfl, if_neg (by omega)]; exact e3
      rw [if_neg (fun z => c ((lA6 (show a < 2 ^ 31 by omega)).mp z))]
      simp only [mr_217_19 H3, Option.bind_some, if_pos x1, lG2, nI_clamp (show 2 + a < 2 ^ 31 by omega), if_pos (mx_226 H3 (show 2 + a < 161 by omega)), r0, k0, nI_1]
      refine pb_hb_ex2 (fun g eg => ⟨1, g, rfl, ?_⟩)
      have fr : ma_fr [226] tx_fl h g := by rw [eg]; exact ma_fr_pI (ma_fr_pI (ma_fr_w R1.1 (by decide) (by decide)) (.inl (by decide)) _) (.inl (by decide)) _
      have c17 : ∀ k, pb_I g 217 k = pb_I g3 217 k := fun k => by rw [eg, ma_Ik, if_neg (by decide), ma_Ik, if_neg (by decide)]
      have J17 : pb_J g = pb_J g3 := by rw [eg]; rfl
      have c26 : ∀ k, pb_I g 226 k = if k = 0 then nI (a + 1) else if k = 2 + a then nI (sp_vl B n e 0) else pb_I h 226 k := fun k => by
        rw [eg, ma_Ik, if_pos rfl]
        by_cases z : k = 0
        · rw [if_pos z, if_pos z]
        · rw [if_neg z, if_neg z, ma_Ik, if_pos rfl, k6]
      refine ⟨fr, .inr ⟨rfl, u, tx_M_e R1.2.2.1 c17 J17, tx_P_e R1.2.2.2.1 (c17 16) (c17 17), ⟨fun _ => ⟨a + 1, b', by omega, b6, by rw [c26, if_pos rfl], by rw [c26, if_neg (by decide), if_neg (by omega)]; exact eb⟩, fun q => absurd q (by decide), fun q => absurd q (by decide)⟩, fun q => ?_⟩⟩
      have q1 := (sp_fn_0 _ q).1
      rw [← hp'] at q1
      have q2 := tx_q0 q1
      have ca := cnt q2.1
      have nn := (Nn q2.1).1 rfl
      obtain ⟨⟨n0, n1, n2, n3, n4, n5, n6, n7⟩, m1, m2⟩ := nn
      have us : tx_st 0 (sp_vl B n e) D = (tx_u (tx_u D.1 1 (D.1 0 0) (sp_vl B n e 0)) 0 0 (D.1 0 0 + 1), D.2) := if_pos rfl
      rw [us]
      refine ⟨fun _ => ⟨⟨?_, ?_, fun m hm => ?_, fun m hm => ?_, fun m hm => ?_, fun m hm => ?_, fun m hm => ?_, fun m hm => ?_⟩, ?_, ?_⟩, fun q => absurd q (by decide), fun q => absurd q (by decide)⟩
      · dsimp only; rw [c26, if_pos rfl, tx_u_e, ca]
      · dsimp only; rw [c26, if_neg (by decide), if_neg (by omega), tx_u_n _ (by omega), tx_u_n _ (by omega)]; exact n1
      · dsimp only; rw [c26, if_neg (by omega), tx_u_n _ (by omega)]
        by_cases z : m = a
        · rw [if_pos (by omega), z, ca, tx_u_e]
        · rw [if_neg (by omega), tx_u_n _ (by omega)]; exact n2 m hm
      · dsimp only; rw [c26, if_neg (by omega), if_neg (by omega), tx_u_n _ (by omega), tx_u_n _ (by omega)]; exact n3 m hm
      · dsimp only; rw [c26, if_neg (by omega), if_neg (by omega), tx_u_n _ (by omega), tx_u_n _ (by omega)]; exact n4 m hm
      · dsimp only; rw [c26, if_neg (by omega), if_neg (by omega), tx_u_n _ (by omega), tx_u_n _ (by omega)]; exact n5 m hm
      · dsimp only; rw [c26, if_neg (by omega), if_neg (by omega), tx_u_n _ (by omega), tx_u_n _ (by omega)]; exact n6 m hm
      · dsimp only; rw [c26, if_neg (by omega), if_neg (by omega), tx_u_n _ (by omega), tx_u_n _ (by omega)]; exact n7 m hm
      · rw [c17, R1.2.2.2.2.2.2.2.1]; exact m1
      · rw [c17, R1.2.2.2.2.2.2.2.2.1]; exact m2
  · rw [w1, Option.bind_some]
    exact ⟨0, g3, rfl, tx_R_O0 w2 w3 w4⟩
end

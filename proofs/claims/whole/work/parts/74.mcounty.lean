/-! text: the model's lines of a county, the rest -/
section
variable {h : pb_HP} {N n e l b s : Nat} {B : Nat → Int32} {p : Nat × Nat} {D : tx_T}
theorem m_186 {at' : Nat} (J : tx_J h B n e at' 0 p D) (hB : ∀ j, j < n → (B j).toInt8.toInt32 = B j) (hn : n ≤ 600) (he : e ≤ n) (hN : 3000 < N) : ∃ r g, f_186 N h 217 (nI at') = some (r, g) ∧ tx_O h g B n e 1 0 (if tx_fu D 1 then sp_bl p 3 at' else p) D r := by
  obtain ⟨E, e9, ha, P, e22, W, Nn, G⟩ := J
  have H := E.1
  obtain ⟨b', a, b6, a6, eb, ea⟩ := W.1 rfl
  have cnt : p.1 = 0 → a = D.1 0 1 := fun z => by
    have := ((Nn z).1 rfl).1.2.1
    exact (nI_eq (by omega) (by have := G.2.1; omega)).mp (ea.symm.trans this)
  obtain ⟨g1, y1, y2, y3⟩ := m_184 (c := 1) (most := 6) (q := at') H (by decide) ea a6 (by decide) P (by omega)
  rw [tx_full (l := 1) (D := D) (fun z => by rw [cnt z]; unfold tx_fu; rw [if_neg (by decide), if_pos rfl]; simp)] at y3
  have y1 : f_184 h 217 1 6 (nI at') = some g1 := y1
  have H1 := ma_H_fr H y2
  generalize hp' : (if tx_fu D 1 then sp_bl p 3 at' else p) = p' at y3 ⊢
  obtain ⟨g2, z1, R0⟩ := m_st (N := N) (l := 1) (b := 0) (p := p') (h := g1) h (ma_fr_w y2 (by decide) (by decide)) (tx_E_fr E y2 (by decide) (by decide) (by decide) (by decide)) hB hn he (by rw [y2.2.2 217 9 (by decide) (by decide)]; exact e9) (tx_P_m y3 (by omega)) (by rw [y2.2.2 217 22 (by decide) (by decide)]; exact e22) (y2.2.2 217 20 (by decide) (by decide)) (y2.2.2 217 21 (by decide) (by decide)) (ma_fr_o y2 (by decide) (by decide)) hN
  have H2 := R0.2.1.1
  unfold f_186
  rw [if_pos (mi_217 H), y1, Option.bind_some, if_pos (mi_217 H1), z1, Option.bind_some, if_pos (mi_217 H2)]
  rcases m_tk2 (N := N) (kk := 0) (lo := 0) (hi := 20) R0 hB hn he (by decide) (by decide) (by decide) hN rfl (by decide) (by decide) with ⟨_, g3, w1, R1⟩ | ⟨g3, w1, w2, w3, w4⟩
  · have H3 := R1.2.1.1
    rw [w1, Option.bind_some]
    dsimp only
    rw [if_neg (by decide), if_pos (mi_217 H3)]
    rcases m_tk2 (N := N) (kk := 1) (lo := 0) (hi := 30) R1 hB hn he (by decide) (by decide) (by decide) hN rfl (by decide) (by decide) with ⟨_, g4, w2, R2⟩ | ⟨g4, w2, w3, w4, w5⟩
    · have H4 := R2.2.1.1
      have u := sp_nb_u (c := sp_nc 1) R2.2.2.2.2.2.2.1 (fun q => absurd q (by decide)) (by decide)
      have k6 : pb_I g4 226 = pb_I h 226 := ma_fr_o R2.1 (by decide) (by decide)
      have r0 : pb_I g4 227 0 = nI (sp_vl B n e 0) := R2.2.2.2.2.2.1 0 (by decide)
      have r1 : pb_I g4 227 1 = nI (sp_vl B n e 1) := R2.2.2.2.2.2.1 1 (by decide)
      have x0 : pb_ar g4 226 12 1 := mx_226 H4 (j := 1) (by decide)
      have x1 : pb_ar g4 227 12 0 := mx_227 H4 (j := 0) (by decide)
      have x2 : pb_ar g4 227 12 1 := mx_227 H4 (j := 1) (by decide)
      have e3 : pb_I g4 226 1 = nI a := by rw [k6]; exact ea
      rw [w2, Option.bind_some]
      dsimp only
      rw [if_pos (by decide), if_pos (mi_217 H4), mr_217_18 H4, Option.bind_some, if_pos x0]
      simp only [tx_z1, tx_z0, e3]
      by_cases c : 6 ≤ a
      · rw [if_pos ((lA6 (show a < 2 ^ 31 by omega)).mpr c)]
        refine ⟨1, g4, rfl, ma_fr_w R2.1 (by decide) (by decide), .inr ⟨rfl, u, R2.2.2.1, R2.2.2.2.1, ⟨fun _ => ⟨b', a, b6, a6, by rw [k6]; exact eb, e3⟩, fun q => absurd q (by decide), fun q => absurd q (by decide)⟩, fun q => ?_⟩⟩
        have q1 := (sp_fn_0 _ q).1
        rw [← hp'] at q1
        have q2 := tx_q0 q1
        have := cnt q2.1
        have q3 := q2.2
        unfold tx_fu at q3
        rw [if_neg (by decide), if_pos rfl] at q3
        exact absurd q3 (by simp; omega)
      · have k1 : pb_I (pb_pI g4 226 (14 + a) (nI (sp_vl B n e 0))) 227 1 = nI (sp_vl B n e 1) := by rw [ma_Ik, if_neg (by decide)]; exact r1
        have k0 : ∀ y, pb_I (pb_pI (pb_pI g4 226 (14 + a) (nI (sp_vl B n e 0))) 226 (20 + a) y) 226 1 = nI a := fun y => by rw [ma_Ik, if_pos rfl, if_neg (by omega), ma_Ik, if_pos rfl, if_neg (by omega)]; exact e3
        rw [if_neg (fun z => c ((lA6 (show a < 2 ^ 31 by omega)).mp z))]
        simp only [mr_217_19 H4, Option.bind_some, if_pos x1, if_pos x2, lG14, lG20, nI_clamp (show 14 + a < 2 ^ 31 by omega), nI_clamp (show 20 + a < 2 ^ 31 by omega), if_pos (mx_226 H4 (show 14 + a < 161 by omega)), if_pos (mx_226 H4 (show 20 + a < 161 by omega)), r0, k1, pb_hb, k0, nI_1]
        refine ⟨1, _, rfl, ?_⟩
        obtain ⟨g, eg⟩ : ∃ g, g = pb_pI (pb_pI (pb_pI g4 226 (14 + a) (nI (sp_vl B n e 0))) 226 (20 + a) (nI (sp_vl B n e 1))) 226 1 (nI (a + 1)) := ⟨_, rfl⟩
        rw [← eg]
        have fr : ma_fr [226] tx_fl h g := by rw [eg]; exact ma_fr_pI (ma_fr_pI (ma_fr_pI (ma_fr_w R2.1 (by decide) (by decide)) (.inl (by decide)) _) (.inl (by decide)) _) (.inl (by decide)) _
        have c17 : ∀ k, pb_I g 217 k = pb_I g4 217 k := fun k => by rw [eg, ma_Ik, if_neg (by decide), ma_Ik, if_neg (by decide), ma_Ik, if_neg (by decide)]
        have J17 : pb_J g = pb_J g4 := by rw [eg]; rfl
        have c26 : ∀ k, pb_I g 226 k = if k = 1 then nI (a + 1) else if k = 20 + a then nI (sp_vl B n e 1) else if k = 14 + a then nI (sp_vl B n e 0) else pb_I h 226 k := fun k => by
          rw [eg, ma_Ik, if_pos rfl]
          by_cases z : k = 1
          · rw [if_pos z, if_pos z]
          · rw [if_neg z, if_neg z, ma_Ik, if_pos rfl, ma_Ik, if_pos rfl, k6]
        refine ⟨fr, .inr ⟨rfl, u, tx_M_e R2.2.2.1 c17 J17, tx_P_e R2.2.2.2.1 (c17 16) (c17 17), ⟨fun _ => ⟨b', a + 1, b6, by omega, by rw [c26, if_neg (by decide), if_neg (by omega), if_neg (by omega)]; exact eb, by rw [c26, if_pos rfl]⟩, fun q => absurd q (by decide), fun q => absurd q (by decide)⟩, fun q => ?_⟩⟩
        have q1 := (sp_fn_0 _ q).1
        rw [← hp'] at q1
        have q2 := tx_q0 q1
        have ca := cnt q2.1
        have nn := (Nn q2.1).1 rfl
        obtain ⟨⟨n0, n1, n2, n3, n4, n5, n6, n7⟩, m1, m2⟩ := nn
        have us : tx_st 1 (sp_vl B n e) D = (tx_u (tx_u (tx_u D.1 3 (D.1 0 1) (sp_vl B n e 0)) 4 (D.1 0 1) (sp_vl B n e 1)) 0 1 (D.1 0 1 + 1), D.2) := (if_neg (by decide)).trans (if_pos rfl)
        rw [us]
        refine ⟨fun _ => ⟨⟨?_, ?_, fun m hm => ?_, fun m hm => ?_, fun m hm => ?_, fun m hm => ?_, fun m hm => ?_, fun m hm => ?_⟩, ?_, ?_⟩, fun q => absurd q (by decide), fun q => absurd q (by decide)⟩
        · dsimp only; rw [c26, if_neg (by decide), if_neg (by omega), if_neg (by omega), tx_u_n _ (by omega), tx_u_n _ (by omega), tx_u_n _ (by omega)]; exact n0
        · dsimp only; rw [c26, if_pos rfl, tx_u_e, ca]
        · dsimp only; rw [c26, if_neg (by omega), if_neg (by omega), if_neg (by omega), tx_u_n _ (by omega), tx_u_n _ (by omega), tx_u_n _ (by omega)]; exact n2 m hm
        · dsimp only; rw [c26, if_neg (by omega), if_neg (by omega), if_neg (by omega), tx_u_n _ (by omega), tx_u_n _ (by omega), tx_u_n _ (by omega)]; exact n3 m hm
        · dsimp only; rw [c26, if_neg (by omega), if_neg (by omega), tx_u_n _ (by omega), tx_u_n _ (by omega)]
          by_cases z : m = a
          · rw [if_pos (by omega), z, ca, tx_u_e]
          · rw [if_neg (by omega), tx_u_n _ (by omega)]; exact n4 m hm
        · dsimp only; rw [c26, if_neg (by omega), tx_u_n _ (by omega)]
          by_cases z : m = a
          · rw [if_pos (by omega), z, ca, tx_u_e]
          · rw [if_neg (by omega), if_neg (by omega), tx_u_n _ (by omega), tx_u_n _ (by omega)]; exact n5 m hm
        · dsimp only; rw [c26, if_neg (by omega), if_neg (by omega), if_neg (by omega), tx_u_n _ (by omega), tx_u_n _ (by omega), tx_u_n _ (by omega)]; exact n6 m hm
        · dsimp only; rw [c26, if_neg (by omega), if_neg (by omega), if_neg (by omega), tx_u_n _ (by omega), tx_u_n _ (by omega), tx_u_n _ (by omega)]; exact n7 m hm
        · rw [c17, R2.2.2.2.2.2.2.2.1]; exact m1
        · rw [c17, R2.2.2.2.2.2.2.2.2.1]; exact m2
    · rw [w2, Option.bind_some]
      exact ⟨0, g4, rfl, tx_R_O0 w3 w4 w5⟩
  · rw [w1, Option.bind_some]
    exact ⟨0, g3, rfl, tx_R_O0 w2 w3 w4⟩
theorem m_170x (x y : Int32) : ∃ r, f_170 x y = some r := by
  unfold f_170; split <;> exact ⟨_, rfl⟩
theorem m_170t {a v : Nat} (ha : a ≤ 6) (hv : v ≤ 99) : f_170 (mI a) (nI v) = some (mI (tx_mx a (v + 1))) := by
  unfold f_170 tx_mx
  by_cases c : a < v + 1
  · rw [if_pos c, mI_s]
    by_cases d : mI a ≤ nI v
    · rw [if_pos d]
    · exact absurd ((mn_le (by omega) (by omega)).mpr (by omega)) d
  · rw [if_neg c]
    by_cases d : mI a ≤ nI v
    · rw [if_pos d]
      have : a ≤ v + 1 := (mn_le (by omega) (by omega)).mp d
      have : a = v + 1 := by omega
      rw [this, mI_s]
    · rw [if_neg d]
theorem tx_fin {g g' : pb_HP} (R : tx_R h g B n e l 0 (sp_nc l) p) (fr : ma_fr [226] [(217, 20), (217, 21)] g g') (jj : pb_J g' = pb_J g) (w0 : pb_I g' 226 0 = pb_I g 226 0) (w1 : pb_I g' 226 1 = pb_I g 226 1) (W : tx_W h 0) (fin : (sp_fn B n e l p (sp_nc l)).1 = 0 → tx_N g' 0 (tx_st l (sp_vl B n e) D)) : tx_O h g' B n e l 0 p D 1 := by
  have u := sp_nb_u (c := sp_nc l) R.2.2.2.2.2.2.1 (fun q => absurd q (Nat.lt_irrefl _)) (Nat.le_refl _)
  have k6 : pb_I g 226 = pb_I h 226 := ma_fr_o R.1 (by decide) (by decide)
  obtain ⟨a, b', a6, b6, ea, eb⟩ := W.1 rfl
  refine ⟨ma_fr_t (ma_fr_w R.1 (by decide) (by decide)) (ma_fr_w fr (by decide) (by decide)), .inr ⟨rfl, u, ?_, ?_, ⟨fun _ => ⟨a, b', a6, b6, by rw [w0, k6]; exact ea, by rw [w1, k6]; exact eb⟩, fun q => absurd q (by decide), fun q => absurd q (by decide)⟩, fin⟩⟩
  · have M := R.2.2.1
    unfold tx_M at M ⊢
    rw [fr.2.2 217 9 (by decide) (by decide), fr.2.2 217 11 (by decide) (by decide), fr.2.2 217 12 (by decide) (by decide), fr.2.2 217 13 (by decide) (by decide), jj]
    exact M
  · exact tx_P_e R.2.2.2.1 (fr.2.2 217 16 (by decide) (by decide)) (fr.2.2 217 17 (by decide) (by decide))
theorem tx_cH : ∀ l, l < 5 → 2 ≤ l → (lg_cmp (tx_w l) 6840691 = 0 ↔ l = 2) ∧ (lg_cmp (tx_w l) 465625113971 = 0 ↔ l = 4) := by decide +kernel
theorem m_187h {g : pb_HP} (R : tx_R h g B n e 2 0 2 p) (W : tx_W h 0) (Nn : p.1 = 0 → tx_N h 0 D) (G : tx_G D) : ∃ r g', f_187_102 N g 217 (tx_w 2) = some (r, g') ∧ tx_O h g' B n e 2 0 p D r := by
  have H := R.2.1.1
  have cH := (tx_cH 2 (by decide) (by decide)).1.mpr rfl
  have cL : ¬ lg_cmp (tx_w 2) 465625113971 = 0 := fun z => absurd ((tx_cH 2 (by decide) (by decide)).2.mp z) (by decide)
  have x0 : pb_ar g 227 12 0 := mx_227 H (j := 0) (by decide)
  have x1 : pb_ar g 227 12 1 := mx_227 H (j := 1) (by decide)
  have r0 : pb_I g 227 0 = nI (sp_vl B n e 0) := R.2.2.2.2.2.1 0 (by decide)
  have r1 : pb_I g 227 1 = nI (sp_vl B n e 1) := R.2.2.2.2.2.1 1 (by decide)
  have k6 : pb_I g 226 = pb_I h 226 := ma_fr_o R.1 (by decide) (by decide)
  obtain ⟨w, w1, w2, w3⟩ := R.2.2.2.2.1
  obtain ⟨r, er⟩ := m_170x (pb_I g 217 20) (nI (sp_vl B n e 0))
  obtain ⟨g1, e1⟩ : ∃ g1, g1 = pb_pI (pb_pI g 217 20 r) 217 21 (pb_I g 217 21) := ⟨_, rfl⟩
  have H1 : ma_H g1 := by rw [e1]; exact H
  have y1 : pb_I (pb_pI g 217 20 r) 217 21 = pb_I g 217 21 := by rw [ma_Ik, if_pos rfl, if_neg (by decide)]
  have y2 : pb_I g1 217 22 = pb_I g 217 22 := by rw [e1, ma_Ik, if_pos rfl, if_neg (by decide), ma_Ik, if_pos rfl, if_neg (by decide)]
  have f1 : ma_fr [226] [(217, 20), (217, 21)] g g1 := by rw [e1]; exact ma_fr_pI (ma_fr_pI (ma_fr_r _ _ _) (.inr (by decide)) _) (.inr (by decide)) _
  have o1 : ∀ o, o ≠ 217 → pb_I g1 o = pb_I g o := fun o q => by rw [e1, ma_I_pI, if_neg q, ma_I_pI, if_neg q]
  have i1 : pb_is (pb_pI g 217 20 r) 217 11 := mi_217 H
  have top : f_187_102 N g 217 (tx_w 2) = f_187_214 N g1 217 (tx_w 2) := by
    unfold f_187_102
    rw [if_neg (not_not_intro cH), if_pos (mi_217 H), mr_217_19 H, Option.bind_some, if_pos x0, tx_z0, r0, er, Option.bind_some]
    unfold f_187_131
    rw [if_pos (mi_217 H), if_neg (not_not_intro cH), if_pos (mi_217 H), y1]
    unfold f_187_163
    rw [if_pos i1, if_pos i1, ← e1, if_pos cL]
    split <;> rfl
  rw [top]
  unfold f_187_214
  rw [if_pos (mi_217 H1), y2, w1]
  cases w with
  | false =>
    rw [if_pos (by decide)]
    exact ⟨1, g1, rfl, tx_fin R f1 (by rw [e1]; rfl) (by rw [o1 _ (by decide)]) (by rw [o1 _ (by decide)]) W (fun q => absurd (w3 q) (by decide))⟩
  | true =>
    have gd := w2 rfl
    have ok : ∀ k, k < 2 → sp_vl B n e k ≤ 5 := fun k hk => by
      have := gd k hk
      unfold sp_gd at this
      have h5 : ∀ k, k < 2 → tx_hi 2 k = 5 := by decide +kernel
      have h5 := h5 k hk
      simp at this
      omega
    have v0 := ok 0 (by decide)
    have v1 := ok 1 (by decide)
    rw [if_neg (by decide), mr_217_18 H1, Option.bind_some, if_neg (not_not_intro cH)]
    have z0 : pb_ar g1 227 12 0 := mx_227 H1 (j := 0) (by decide)
    have z1 : pb_ar g1 227 12 1 := mx_227 H1 (j := 1) (by decide)
    unfold f_187_240
    rw [if_pos (mi_217 H1), mr_217_19 H1, Option.bind_some, if_pos z0, o1 227 (by decide)]
    simp only [tx_z0, tx_z1, r0, r1, lG8, nI_clamp (show 8 + sp_vl B n e 0 < 2 ^ 31 by omega), if_pos (mx_226 H1 (show 8 + sp_vl B n e 0 < 161 by omega)), if_pos z1, o1 226 (by decide), k6, ma_shl (show sp_vl B n e 1 < 31 by omega)]
    refine pb_hb_ex2 (fun g' eg => ⟨1, g', rfl, ?_⟩)
    have c26 : ∀ k, pb_I g' 226 k = if k = 8 + sp_vl B n e 0 then pb_I h 226 (8 + sp_vl B n e 0) ||| nI (2 ^ sp_vl B n e 1) else pb_I h 226 k := fun k => by
      rw [eg, ma_Ik, if_pos rfl, o1 226 (by decide), k6]
    have c17 : ∀ k, pb_I g' 217 k = pb_I g1 217 k := fun k => by rw [eg, ma_Ik, if_neg (by decide)]
    refine tx_fin R (by rw [eg]; exact ma_fr_pI f1 (.inl (by decide)) _) (by rw [eg, e1]; rfl) (by rw [c26, if_neg (by omega), k6]) (by rw [c26, if_neg (by omega), k6]) W (fun q => ?_)
    have p0 := (sp_fn_0 _ q).1
    obtain ⟨⟨n0, n1, n2, n3, n4, n5, n6, n7⟩, m1, m2⟩ := (Nn p0).1 rfl
    have us : tx_st 2 (sp_vl B n e) D = (tx_u D.1 2 (sp_vl B n e 0) (D.1 2 (sp_vl B n e 0) ||| 2 ^ sp_vl B n e 1), (tx_mx D.2.1.1 (sp_vl B n e 0 + 1), D.2.1.2), D.2.2) := (if_neg (by decide)).trans ((if_neg (by decide)).trans (if_pos rfl))
    rw [us]
    refine ⟨fun _ => ⟨⟨?_, ?_, fun m hm => ?_, fun m hm => ?_, fun m hm => ?_, fun m hm => ?_, fun m hm => ?_, fun m hm => ?_⟩, ?_, ?_⟩, fun q => absurd q (by decide), fun q => absurd q (by decide)⟩
    · dsimp only; rw [c26, if_neg (by omega), tx_u_n _ (by omega)]; exact n0
    · dsimp only; rw [c26, if_neg (by omega), tx_u_n _ (by omega)]; exact n1
    · dsimp only; rw [c26, if_neg (by omega), tx_u_n _ (by omega)]; exact n2 m hm
    · dsimp only; rw [c26]
      by_cases z : m = sp_vl B n e 0
      · rw [if_pos (by omega), z, tx_u_e, n3 _ (by omega), fa_or]
      · rw [if_neg (by omega), tx_u_n _ (by omega)]; exact n3 m hm
    · dsimp only; rw [c26, if_neg (by omega), tx_u_n _ (by omega)]; exact n4 m hm
    · dsimp only; rw [c26, if_neg (by omega), tx_u_n _ (by omega)]; exact n5 m hm
    · dsimp only; rw [c26, if_neg (by omega), tx_u_n _ (by omega)]; exact n6 m hm
    · dsimp only; rw [c26, if_neg (by omega), tx_u_n _ (by omega)]; exact n7 m hm
    · dsimp only
      rw [R.2.2.2.2.2.2.2.1, m1, m_170t G.2.2.2.1 (by omega)] at er
      rw [c17, e1, ma_Ik, if_pos rfl, if_neg (by decide), ma_Ik, if_pos rfl, if_pos rfl]
      exact (Option.some.inj er).symm
    · dsimp only
      rw [c17, e1, ma_Ik, if_pos rfl, if_pos rfl, R.2.2.2.2.2.2.2.2.1]; exact m2
theorem m_187f {g : pb_HP} (R : tx_R h g B n e 3 0 2 p) (W : tx_W h 0) (Nn : p.1 = 0 → tx_N h 0 D) (G : tx_G D) : ∃ r g', f_187_102 N g 217 (tx_w 3) = some (r, g') ∧ tx_O h g' B n e 3 0 p D r := by
  have H := R.2.1.1
  have cH : ¬ lg_cmp (tx_w 3) 6840691 = 0 := fun z => absurd ((tx_cH 3 (by decide) (by decide)).1.mp z) (by decide)
  have cL : ¬ lg_cmp (tx_w 3) 465625113971 = 0 := fun z => absurd ((tx_cH 3 (by decide) (by decide)).2.mp z) (by decide)
  have x0 : pb_ar g 227 12 0 := mx_227 H (j := 0) (by decide)
  have r0 : pb_I g 227 0 = nI (sp_vl B n e 0) := R.2.2.2.2.2.1 0 (by decide)
  have r1 : pb_I g 227 1 = nI (sp_vl B n e 1) := R.2.2.2.2.2.1 1 (by decide)
  have k6 : pb_I g 226 = pb_I h 226 := ma_fr_o R.1 (by decide) (by decide)
  obtain ⟨w, w1, w2, w3⟩ := R.2.2.2.2.1
  obtain ⟨r, er⟩ := m_170x (pb_I g 217 21) (nI (sp_vl B n e 0))
  obtain ⟨g1, e1⟩ : ∃ g1, g1 = pb_pI (pb_pI g 217 20 (pb_I g 217 20)) 217 21 r := ⟨_, rfl⟩
  have H1 : ma_H g1 := by rw [e1]; exact H
  have y1 : pb_I (pb_pI g 217 20 (pb_I g 217 20)) 217 21 = pb_I g 217 21 := by rw [ma_Ik, if_pos rfl, if_neg (by decide)]
  have y3 : pb_I (pb_pI g 217 20 (pb_I g 217 20)) 227 0 = nI (sp_vl B n e 0) := by rw [ma_Ik, if_neg (by decide)]; exact r0
  have y2 : pb_I g1 217 22 = pb_I g 217 22 := by rw [e1, ma_Ik, if_pos rfl, if_neg (by decide), ma_Ik, if_pos rfl, if_neg (by decide)]
  have f1 : ma_fr [226] [(217, 20), (217, 21)] g g1 := by rw [e1]; exact ma_fr_pI (ma_fr_pI (ma_fr_r _ _ _) (.inr (by decide)) _) (.inr (by decide)) _
  have o1 : ∀ o, o ≠ 217 → pb_I g1 o = pb_I g o := fun o q => by rw [e1, ma_I_pI, if_neg q, ma_I_pI, if_neg q]
  have i1 : pb_is (pb_pI g 217 20 (pb_I g 217 20)) 217 11 := mi_217 H
  have top : f_187_102 N g 217 (tx_w 3) = f_187_214 N g1 217 (tx_w 3) := by
    unfold f_187_102
    rw [if_pos cH, if_pos (mi_217 H)]
    unfold f_187_131
    rw [if_pos (mi_217 H), if_pos cH, if_pos (mi_217 H), mr_217_19 H, Option.bind_some, if_pos x0, tx_z0, y1, y3, er, Option.bind_some]
    unfold f_187_163
    rw [if_pos i1, if_pos i1, ← e1, if_pos cL]
    split <;> rfl
  rw [top]
  unfold f_187_214
  rw [if_pos (mi_217 H1), y2, w1]
  cases w with
  | false =>
    rw [if_pos (by decide)]
    exact ⟨1, g1, rfl, tx_fin R f1 (by rw [e1]; rfl) (by rw [o1 _ (by decide)]) (by rw [o1 _ (by decide)]) W (fun q => absurd (w3 q) (by decide))⟩
  | true =>
    have gd := w2 rfl
    have ok : ∀ k, k < 2 → sp_vl B n e k ≤ 5 := fun k hk => by
      have := gd k hk
      unfold sp_gd at this
      have h5 : ∀ k, k < 2 → tx_hi 3 k = 5 := by decide +kernel
      have h5 := h5 k hk
      simp at this
      omega
    have v0 := ok 0 (by decide)
    have v1 := ok 1 (by decide)
    rw [if_neg (by decide), mr_217_18 H1, Option.bind_some, if_pos cH]
    have z0 : pb_ar g1 227 12 0 := mx_227 H1 (j := 0) (by decide)
    have z1 : pb_ar g1 227 12 1 := mx_227 H1 (j := 1) (by decide)
    unfold f_187_240
    rw [if_pos (mi_217 H1), mr_217_19 H1, Option.bind_some, if_pos z0, o1 227 (by decide)]
    simp only [tx_z0, tx_z1, r0, r1, lG26, nI_clamp (show 26 + sp_vl B n e 0 < 2 ^ 31 by omega), if_pos (mx_226 H1 (show 26 + sp_vl B n e 0 < 161 by omega)), if_pos z1, o1 226 (by decide), k6, ma_shl (show sp_vl B n e 1 < 31 by omega)]
    refine pb_hb_ex2 (fun g' eg => ⟨1, g', rfl, ?_⟩)
    have c26 : ∀ k, pb_I g' 226 k = if k = 26 + sp_vl B n e 0 then pb_I h 226 (26 + sp_vl B n e 0) ||| nI (2 ^ sp_vl B n e 1) else pb_I h 226 k := fun k => by
      rw [eg, ma_Ik, if_pos rfl, o1 226 (by decide), k6]
    have c17 : ∀ k, pb_I g' 217 k = pb_I g1 217 k := fun k => by rw [eg, ma_Ik, if_neg (by decide)]
    refine tx_fin R (by rw [eg]; exact ma_fr_pI f1 (.inl (by decide)) _) (by rw [eg, e1]; rfl) (by rw [c26, if_neg (by omega), k6]) (by rw [c26, if_neg (by omega), k6]) W (fun q => ?_)
    have p0 := (sp_fn_0 _ q).1
    obtain ⟨⟨n0, n1, n2, n3, n4, n5, n6, n7⟩, m1, m2⟩ := (Nn p0).1 rfl
    have us : tx_st 3 (sp_vl B n e) D = (tx_u D.1 5 (sp_vl B n e 0) (D.1 5 (sp_vl B n e 0) ||| 2 ^ sp_vl B n e 1), (D.2.1.1, tx_mx D.2.1.2 (sp_vl B n e 0 + 1)), D.2.2) := (if_neg (by decide)).trans ((if_neg (by decide)).trans ((if_neg (by decide)).trans (if_pos rfl)))
    rw [us]
    refine ⟨fun _ => ⟨⟨?_, ?_, fun m hm => ?_, fun m hm => ?_, fun m hm => ?_, fun m hm => ?_, fun m hm => ?_, fun m hm => ?_⟩, ?_, ?_⟩, fun q => absurd q (by decide), fun q => absurd q (by decide)⟩
    · dsimp only; rw [c26, if_neg (by omega), tx_u_n _ (by omega)]; exact n0
    · dsimp only; rw [c26, if_neg (by omega), tx_u_n _ (by omega)]; exact n1
    · dsimp only; rw [c26, if_neg (by omega), tx_u_n _ (by omega)]; exact n2 m hm
    · dsimp only; rw [c26, if_neg (by omega), tx_u_n _ (by omega)]; exact n3 m hm
    · dsimp only; rw [c26, if_neg (by omega), tx_u_n _ (by omega)]; exact n4 m hm
    · dsimp only; rw [c26, if_neg (by omega), tx_u_n _ (by omega)]; exact n5 m hm
    · dsimp only; rw [c26]
      by_cases z : m = sp_vl B n e 0
      · rw [if_pos (by omega), z, tx_u_e, n6 _ (by omega), fa_or]
      · rw [if_neg (by omega), tx_u_n _ (by omega)]; exact n6 m hm
    · dsimp only; rw [c26, if_neg (by omega), tx_u_n _ (by omega)]; exact n7 m hm
    · dsimp only
      rw [c17, e1, ma_Ik, if_pos rfl, if_neg (by decide), ma_Ik, if_pos rfl, if_pos rfl, R.2.2.2.2.2.2.2.1]; exact m1
    · dsimp only
      rw [R.2.2.2.2.2.2.2.2.1, m2, m_170t G.2.2.2.2.1 (by omega)] at er
      rw [c17, e1, ma_Ik, if_pos rfl, if_pos rfl]
      exact (Option.some.inj er).symm
theorem m_187l {g : pb_HP} (R : tx_R h g B n e 4 0 3 p) (hB : ∀ j, j < n → (B j).toInt8.toInt32 = B j) (he : e ≤ n) (W : tx_W h 0) (Nn : p.1 = 0 → tx_N h 0 D) (G : tx_G D) : ∃ r g', f_187_102 N g 217 (tx_w 4) = some (r, g') ∧ tx_O h g' B n e 4 0 p D r := by
  have H := R.2.1.1
  have cH : ¬ lg_cmp (tx_w 4) 6840691 = 0 := fun z => absurd ((tx_cH 4 (by decide) (by decide)).1.mp z) (by decide)
  have cL : lg_cmp (tx_w 4) 465625113971 = 0 := (tx_cH 4 (by decide) (by decide)).2.mpr rfl
  have x0 : pb_ar g 227 12 0 := mx_227 H (j := 0) (by decide)
  have r0 : pb_I g 227 0 = nI (sp_vl B n e 0) := R.2.2.2.2.2.1 0 (by decide)
  have r1 : pb_I g 227 1 = nI (sp_vl B n e 1) := R.2.2.2.2.2.1 1 (by decide)
  have r2 : pb_I g 227 2 = nI (sp_vl B n e 2) := R.2.2.2.2.2.1 2 (by decide)
  have k6 : pb_I g 226 = pb_I h 226 := ma_fr_o R.1 (by decide) (by decide)
  obtain ⟨w, w1, w2, w3⟩ := R.2.2.2.2.1
  obtain ⟨r, er⟩ := m_170x (pb_I g 217 21) (nI (sp_vl B n e 0))
  obtain ⟨g1, e1⟩ : ∃ g1, g1 = pb_pI (pb_pI g 217 20 (pb_I g 217 20)) 217 21 r := ⟨_, rfl⟩
  have H1 : ma_H g1 := by rw [e1]; exact H
  have y1 : pb_I (pb_pI g 217 20 (pb_I g 217 20)) 217 21 = pb_I g 217 21 := by rw [ma_Ik, if_pos rfl, if_neg (by decide)]
  have y3 : pb_I (pb_pI g 217 20 (pb_I g 217 20)) 227 0 = nI (sp_vl B n e 0) := by rw [ma_Ik, if_neg (by decide)]; exact r0
  have y2 : pb_I g1 217 22 = pb_I g 217 22 := by rw [e1, ma_Ik, if_pos rfl, if_neg (by decide), ma_Ik, if_pos rfl, if_neg (by decide)]
  have f1 : ma_fr [226] [(217, 20), (217, 21)] g g1 := by rw [e1]; exact ma_fr_pI (ma_fr_pI (ma_fr_r _ _ _) (.inr (by decide)) _) (.inr (by decide)) _
  have o1 : ∀ o, o ≠ 217 → pb_I g1 o = pb_I g o := fun o q => by rw [e1, ma_I_pI, if_neg q, ma_I_pI, if_neg q]
  have i1 : pb_is (pb_pI g 217 20 (pb_I g 217 20)) 217 11 := mi_217 H
  have hR : ma_H (pb_pI g 217 20 (pb_I g 217 20)) := H
  have top : f_187_102 N g 217 (tx_w 4) = f_187_163 N (pb_pI g 217 20 (pb_I g 217 20)) 217 (tx_w 4) r 217 := by
    unfold f_187_102
    rw [if_pos cH, if_pos (mi_217 H)]
    unfold f_187_131
    rw [if_pos (mi_217 H), if_pos cH, if_pos (mi_217 H), mr_217_19 H, Option.bind_some, if_pos x0, tx_z0, y1, y3, er, Option.bind_some]
  rw [top]
  unfold f_187_163
  rw [if_pos i1, if_pos i1, ← e1, y2, w1]
  cases w with
  | false =>
    rw [if_pos (by decide)]
    unfold f_187_214
    rw [if_pos (mi_217 H1), y2, w1, if_pos (by decide)]
    exact ⟨1, g1, rfl, tx_fin R f1 (by rw [e1]; rfl) (by rw [o1 _ (by decide)]) (by rw [o1 _ (by decide)]) W (fun q => absurd (w3 q) (by decide))⟩
  | true =>
    have gd := w2 rfl
    have ok : ∀ k, k < 2 → sp_vl B n e k ≤ 5 := fun k hk => by
      have := gd k (by omega)
      unfold sp_gd at this
      have h5 : ∀ k, k < 2 → tx_hi 4 k = 5 := by decide +kernel
      have h5 := h5 k hk
      simp at this
      omega
    have v0 := ok 0 (by decide)
    have v1 := ok 1 (by decide)
    rw [if_neg (by decide), if_neg (not_not_intro cL), mr_217_18 hR, Option.bind_some, mr_217_19 hR, Option.bind_some]
    have z0 : pb_ar (pb_pI g 217 20 (pb_I g 217 20)) 227 12 0 := mx_227 hR (j := 0) (by decide)
    have z1 : pb_ar (pb_pI g 217 20 (pb_I g 217 20)) 227 12 1 := mx_227 hR (j := 1) (by decide)
    have z2 : pb_ar (pb_pI g 217 20 (pb_I g 217 20)) 227 12 2 := mx_227 hR (j := 2) (by decide)
    rw [if_pos z0, if_pos z1, if_pos z2, o1 227 (by decide)]
    simp only [tx_z0, tx_z1, tx_z2, r0, r1, r2, lI6, lG32, nI_add, nI_clamp (show 32 + 6 * sp_vl B n e 0 + sp_vl B n e 1 < 2 ^ 31 by omega), if_pos (mx_226 hR (show 32 + 6 * sp_vl B n e 0 + sp_vl B n e 1 < 161 by omega))]
    refine pb_hb_ex2 (fun g' eg => ⟨1, g', rfl, ?_⟩)
    have c26 : ∀ k, pb_I g' 226 k = if k = 32 + 6 * sp_vl B n e 0 + sp_vl B n e 1 then nI (sp_vl B n e 2) else pb_I h 226 k := fun k => by
      rw [eg, ma_Ik, if_pos rfl, o1 226 (by decide), k6]
    have c17 : ∀ k, pb_I g' 217 k = pb_I g1 217 k := fun k => by rw [eg, ma_Ik, if_neg (by decide)]
    refine tx_fin R (by rw [eg]; exact ma_fr_pI f1 (.inl (by decide)) _) (by rw [eg, e1]; rfl) (by rw [c26, if_neg (by omega), k6]) (by rw [c26, if_neg (by omega), k6]) W (fun q => ?_)
    have p0 := (sp_fn_0 _ q).1
    obtain ⟨⟨n0, n1, n2, n3, n4, n5, n6, n7⟩, m1, m2⟩ := (Nn p0).1 rfl
    have us : tx_st 4 (sp_vl B n e) D = (tx_u D.1 6 (6 * sp_vl B n e 0 + sp_vl B n e 1) (sp_vl B n e 2), (D.2.1.1, tx_mx D.2.1.2 (sp_vl B n e 0 + 1)), D.2.2) := (if_neg (by decide)).trans ((if_neg (by decide)).trans ((if_neg (by decide)).trans ((if_neg (by decide)).trans (if_pos rfl))))
    rw [us]
    refine ⟨fun _ => ⟨⟨?_, ?_, fun m hm => ?_, fun m hm => ?_, fun m hm => ?_, fun m hm => ?_, fun m hm => ?_, fun m hm => ?_⟩, ?_, ?_⟩, fun q => absurd q (by decide), fun q => absurd q (by decide)⟩
    · dsimp only; rw [c26, if_neg (by omega), tx_u_n _ (by omega)]; exact n0
    · dsimp only; rw [c26, if_neg (by omega), tx_u_n _ (by omega)]; exact n1
    · dsimp only; rw [c26, if_neg (by omega), tx_u_n _ (by omega)]; exact n2 m hm
    · dsimp only; rw [c26, if_neg (by omega), tx_u_n _ (by omega)]; exact n3 m hm
    · dsimp only; rw [c26, if_neg (by omega), tx_u_n _ (by omega)]; exact n4 m hm
    · dsimp only; rw [c26, if_neg (by omega), tx_u_n _ (by omega)]; exact n5 m hm
    · dsimp only; rw [c26, if_neg (by omega), tx_u_n _ (by omega)]; exact n6 m hm
    · dsimp only; rw [c26]
      by_cases z : m = 6 * sp_vl B n e 0 + sp_vl B n e 1
      · rw [if_pos (by omega), z, tx_u_e]
      · rw [if_neg (by omega), tx_u_n _ (by omega)]; exact n7 m hm
    · dsimp only
      rw [c17, e1, ma_Ik, if_pos rfl, if_neg (by decide), ma_Ik, if_pos rfl, if_pos rfl, R.2.2.2.2.2.2.2.1]; exact m1
    · dsimp only
      rw [R.2.2.2.2.2.2.2.2.1, m2, m_170t G.2.2.2.2.1 (by omega)] at er
      rw [c17, e1, ma_Ik, if_pos rfl, if_pos rfl]
      exact (Option.some.inj er).symm
end

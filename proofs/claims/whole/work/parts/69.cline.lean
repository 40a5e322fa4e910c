/-! text: the developers' lines -/
def tx_L (h : pb_HP) (l cap nb : Nat) (Y : ma_Y) : Prop := ma_lt l cap ∧ pb_I h l 0 = nI Y.1 ∧ ∀ j, j < Y.1 → pb_I h (l + 1) j = Y.2 j 0 ∧ pb_I h (l + 2) j = Y.2 j 1 ∧ pb_I h (l + 3) j = Y.2 j 2 ∧ (nb = 3 → pb_I h (l + 4) j = Y.2 j 3)
def tx_C (h : pb_HP) (D : tx_T) : Prop := ma_V h 164 D.1 ∧ pb_I h 163 10 = nI D.2.1.1 ∧ pb_I h 163 11 = nI D.2.1.2 ∧ tx_L h 171 40 3 D.2.2.1 ∧ tx_L h 176 8 2 D.2.2.2
def tx_F (h : pb_HP) (p : Nat × Nat) : Prop := pb_I h 163 3 = nI p.1 ∧ pb_I h 163 4 = mI p.2
abbrev tx_ls : List Nat := [164, 165, 166, 167, 168, 169, 170, 171, 172, 173, 174, 175, 176, 177, 178, 179, 180]
theorem ma_lt171 : ma_lt 171 40 := by unfold ma_lt; decide
theorem ma_lt176 : ma_lt 176 8 := by unfold ma_lt; decide
theorem ma_ct164 : ma_ct 164 := by unfold ma_ct; decide
theorem tx_L_e {h g : pb_HP} {l cap nb : Nat} {Y : ma_Y} (V : tx_L h l cap nb Y) (e : ∀ o, l ≤ o → o ≤ l + 4 → pb_I g o = pb_I h o) : tx_L g l cap nb Y := by
  unfold tx_L
  rw [e l (by omega) (by omega), e (l + 1) (by omega) (by omega), e (l + 2) (by omega) (by omega), e (l + 3) (by omega) (by omega), e (l + 4) (by omega) (by omega)]
  exact V
theorem tx_C_e {h g : pb_HP} {D : tx_T} (C : tx_C h D) (e : ∀ o, 164 ≤ o → o ≤ 180 → pb_I g o = pb_I h o) (e0 : pb_I g 163 10 = pb_I h 163 10) (e1 : pb_I g 163 11 = pb_I h 163 11) : tx_C g D :=
  ⟨ma_V_e C.1 (fun o a b => e o a (by omega)), e0.trans C.2.1, e1.trans C.2.2.1, tx_L_e C.2.2.2.1 (fun o a b => e o (by omega) (by omega)), tx_L_e C.2.2.2.2 (fun o a b => e o (by omega) (by omega))⟩
theorem tx_s2 : pb_in 2 pb_S4.length := by decide
theorem tx_s1 : pb_in 1 pb_S4.length := by decide
theorem tx_t2 : pb_S4.getD (2 : Int32).toNatClampNeg 0 = 12 := by decide
theorem tx_t1 : pb_S4.getD (1 : Int32).toNatClampNeg 0 = 5 := by decide
theorem tx_z0 : (0 : Int32).toNatClampNeg = 0 := by decide
theorem tx_z1 : (1 : Int32).toNatClampNeg = 1 := by decide
theorem tx_z2 : (2 : Int32).toNatClampNeg = 2 := by decide
section
variable {h : pb_HP} {N n i a b l cap nb : Nat} {B : Nat → Int32} {D : tx_T} {v : Nat → Nat} {Y : ma_Y}
theorem c_87 (H : ma_H h) {p : Nat × Nat} (F : tx_F h p) (hp : p.1 ≤ 4) (f q : Nat) : ∃ g, f_87 h 163 (nI f) (nI q) = some g ∧ ma_fr [] [(163, 3), (163, 4)] h g ∧ tx_F g (sp_bl p f q) := by
  unfold f_87 sp_bl
  rw [if_pos (mi_163 H), F.1]
  by_cases c : p.1 = 0
  · rw [if_neg (not_not_intro ((lE0 (show p.1 < 2 ^ 31 by omega)).mpr c)), if_pos c]
    refine ⟨_, rfl, ma_fr_pI (ma_fr_pI (ma_fr_r _ _ _) (.inr (by decide)) _) (.inr (by decide)) _, ?_, ?_⟩
    · rw [ma_Ik, if_pos rfl, if_neg (by decide), ma_Ik, if_pos rfl, if_pos rfl]
    · rw [ma_Ik, if_pos rfl, if_pos rfl]; exact (mI_s q).symm
  · rw [if_pos (fun z => c ((lE0 (show p.1 < 2 ^ 31 by omega)).mp z)), if_neg c]
    exact ⟨_, rfl, ma_fr_r _ _ _, F⟩
theorem c_95 (H : ma_H h) (t : pb_R h 163 5 = some 40) (hn : b ≤ 600) (h8 : pb_I h 163 8 = nI a) (h9 : pb_I h 163 9 = nI b) (hb : b - a ≤ 2) (hab : a ≤ b) (dB : ∀ j, a ≤ j → j < b → pb_I h 40 j = B j ∧ sp_D (B j) = true ∧ (B j).toInt8.toInt32 = B j) (hN : 3000 < N) : f_95 N h 163 = some (nI (sp_vm B a (b - a))) := by
  have hl : pb_wl (f_95_7s N h 163) N (nI 0, nI a) = some (nI (sp_vm B a (b - a))) := by
    have s0 : (nI 0, nI a) = (fun j => (nI (sp_vm B a (j - a)), nI j)) a := by dsimp only; rw [Nat.sub_self]; rfl
    rw [s0]
    refine ma_wl (fun j => (nI (sp_vm B a (j - a)), nI j)) (b - a) N a (by omega) (fun j x y => ?_) ?_
    · have d := dB j x (by omega)
      have y8 := (tx_b d.2.2).2.2.2.2.2.2.2 d.2.1
      have e0 : ¬ nI b ≤ nI j := nI_ge (show j < b by omega) (by omega)
      simp only [f_95_7s, if_pos (mi_163 H), h9, if_neg e0, t, Option.bind_some, if_pos (mx_40 H (show j < 600 by omega)), nI_clamp (show j < 2 ^ 31 by omega), d.1, nI_1]
      have bd : sp_vm B a (j - a + 1) = 10 * sp_vm B a (j - a) + (B j).toNatClampNeg - 48 := by
        have : j = a ∨ j = a + 1 := by omega
        rcases this with w | w
        · subst w
          rw [Nat.sub_self]
          unfold sp_vm
          rw [if_neg (by omega), if_pos (by omega), if_pos rfl]
          omega
        · subst w
          rw [show a + 1 - a = 1 by omega]
          unfold sp_vm
          rw [if_neg (by omega), if_neg (by omega), if_neg (by omega), if_pos rfl]
          omega
      have s2 : nI (10 * sp_vm B a (j - a) + (B j).toNatClampNeg) = nI (10 * sp_vm B a (j - a)) + B j := by rw [← nI_add, ← y8.2.1]
      rw [show j + 1 - a = j - a + 1 by omega, bd, ← lK48 (show 48 ≤ 10 * sp_vm B a (j - a) + (B j).toNatClampNeg by omega), lI10, s2]
    · rw [show a + (b - a) = b by omega]
      have e0 : nI b ≤ nI b := nI_le (Nat.le_refl _) (by omega)
      simp only [f_95_7s, if_pos (mi_163 H), h9, if_pos e0]
  have hl : pb_wl (f_95_7s N h 163) N (0, nI a) = some (nI (sp_vm B a (b - a))) := hl
  unfold f_95
  rw [if_pos (mi_163 H), h8, hl]
  rfl
theorem c_96 (H : ma_H h) (hl : l < 14) {k x : Nat} (hk : k < sp_nc l) (e : pb_I h 181 k = nI x) (hx : x ≤ 99) : f_96 h 163 (nI l) (nI k) = some (if tx_lo l k ≤ x ∧ x ≤ tx_hi l k then 1 else 0) := by
  have T := sp_S3 l hl
  have t := (T.2 k (by omega)).1 hk
  have hk3 : k < 3 := by omega
  have ix : pb_in (nI l * 3 + nI k) pb_S3.length := by
    rw [lJ3, nI_add]
    exact ⟨(lA0 (by omega)).mpr trivial, by rw [nI_clamp (by omega)]; show 3 * l + k < 42; omega⟩
  have e5 : ∀ z w : Int32, f_96_55 h z w = if w < z then some 0 else some 1 := fun _ _ => rfl
  have key : ∀ q, q ≤ 1 → f_96_21 h 163 (nI l) (nI k) (nI q) = some (if q ≤ x ∧ x ≤ tx_hi l k then 1 else 0) := fun q hq => by
    simp only [f_96_21, if_pos (mi_163 H), mr_163_12 H, Option.bind_some, if_pos (mx_181 H hk3), if_pos ix, nI_clamp (show k < 2 ^ 31 by omega), e]
    simp only [lJ3, nI_add, nI_clamp (show 3 * l + k < 2 ^ 31 by omega), t.1, nI_ltI (show tx_hi l k < 2 ^ 31 by omega) (show x < 2 ^ 31 by omega), e5]
    have : q = 0 ∨ q = 1 := by omega
    by_cases c : tx_hi l k < x
    · rw [if_pos c, if_neg (by omega)]
    · rw [if_neg c]
      rcases this with rfl | rfl
      · rw [if_pos (show nI 0 = 0 from rfl), if_neg (nI_pos (by omega)), if_pos (by omega)]
      · rw [if_neg (show ¬ nI 1 = 0 by decide)]
        by_cases c2 : 1 ≤ x
        · rw [if_neg (fun z => by have := (lD1 (show x < 2 ^ 31 by omega)).mp z; omega), if_pos (by omega)]
        · rw [if_pos ((lD1 (show x < 2 ^ 31 by omega)).mpr (by omega)), if_neg (by omega)]
  unfold f_96
  rw [if_pos tx_s1, tx_t1]
  unfold tx_lo
  by_cases c : l = 8
  · rw [if_neg (not_not_intro (show nI l = 5 + 3 by rw [c]; rfl))]
    by_cases c2 : k = 2
    · rw [if_neg (not_not_intro (show nI k = 2 by rw [c2]; rfl)), if_pos (⟨c, c2⟩ : l = 8 ∧ k = 2)]
      exact key 1 (by omega)
    · rw [if_pos (fun z => c2 ((lE2 (show k < 2 ^ 31 by omega)).mp z)), if_neg (fun z : l = 8 ∧ k = 2 => c2 z.2)]
      exact key 0 (by omega)
  · have ne : ¬ nI l = 5 + 3 := fun z => c ((nI_eq (b := 8) (show l < 2 ^ 31 by omega) (by decide)).mp z)
    rw [if_pos ne, if_neg (fun z : l = 8 ∧ k = 2 => c z.1)]
    exact key 0 (by omega)
theorem c_71 (H : ma_H h) (L : tx_L h l cap nb Y) (hc : cap ≤ 40) (hY : Y.1 ≤ cap) : f_71 h l = some (if cap ≤ Y.1 then 1 else 0) := by
  have Lc := L.1
  have l1 := Lc.1
  have e : Int32.ofNat (pb_SH (l + 1)).2 = nI cap := by rw [Lc.2.2.2.1]; rfl
  unfold f_71
  rw [if_pos (ma_is H.1 (by omega) Lc.2.2.1), wl_r1 H Lc, Option.bind_some, if_pos (ma_is H.1 (by omega) Lc.2.2.2.1), L.2.1, e]
  by_cases c : cap ≤ Y.1
  · rw [if_neg (fun z => by have := (nI_ltI (show Y.1 < 2 ^ 31 by omega) (show cap < 2 ^ 31 by omega)).mp z; omega), if_pos c]
  · rw [if_pos ((nI_ltI (show Y.1 < 2 ^ 31 by omega) (show cap < 2 ^ 31 by omega)).mpr (by omega)), if_neg c]
theorem c_72 (H : ma_H h) (L : tx_L h l cap nb Y) (hc : cap ≤ 40) (hY : Y.1 < cap) (d : Nat → Int32) (x : Int32) (hx : nb = 3 → x = d 3) : ∃ g, f_72 h l (d 0) (d 1) (d 2) x = some g ∧ ma_fr [l, l + 1, l + 2, l + 3, l + 4] [] h g ∧ tx_L g l cap nb (tx_row Y d) := by
  have Lc := L.1
  have l1 := Lc.1
  have n0 := L.2.1
  have cl : (nI Y.1).toNatClampNeg = Y.1 := nI_clamp (by omega)
  have k1 : ∀ y, pb_I (pb_pI h (l + 1) Y.1 y) l 0 = nI Y.1 := fun y => by rw [ma_Ik, if_neg (by omega)]; exact n0
  have k2 : ∀ y z, pb_I (pb_pI (pb_pI h (l + 1) Y.1 y) (l + 2) Y.1 z) l 0 = nI Y.1 := fun y z => by rw [ma_Ik, if_neg (by omega)]; exact k1 y
  have k3 : ∀ y z w, pb_I (pb_pI (pb_pI (pb_pI h (l + 1) Y.1 y) (l + 2) Y.1 z) (l + 3) Y.1 w) l 0 = nI Y.1 := fun y z w => by rw [ma_Ik, if_neg (by omega)]; exact k2 y z
  have k4 : ∀ y z w u, pb_I (pb_pI (pb_pI (pb_pI (pb_pI h (l + 1) Y.1 y) (l + 2) Y.1 z) (l + 3) Y.1 w) (l + 4) Y.1 u) l 0 = nI Y.1 := fun y z w u => by rw [ma_Ik, if_neg (by omega)]; exact k3 y z w
  have e : f_72 h l (d 0) (d 1) (d 2) x = some (pb_pI (pb_pI (pb_pI (pb_pI (pb_pI h (l + 1) Y.1 (d 0)) (l + 2) Y.1 (d 1)) (l + 3) Y.1 (d 2)) (l + 4) Y.1 x) l 0 (nI (Y.1 + 1))) := by
    unfold f_72
    rw [if_pos (ma_is H.1 (by omega) Lc.2.2.1), c_71 H L hc (by omega), Option.bind_some, if_neg (show ¬ cap ≤ Y.1 by omega), if_neg (not_not_intro rfl)]
    simp only [wl_r1 H Lc, wl_r2 H Lc, wl_r3 H Lc, wl_r4 H Lc, Option.bind_some, n0, cl, if_pos (wl_x1 H Lc hc hY), if_pos (wl_x2 H Lc hc hY), if_pos (wl_x3 H Lc hc hY), if_pos (wl_x4 H Lc hc hY), k1, k2, k3, k4, nI_1, pb_hb]
  refine ⟨_, e, ma_fr_pI (ma_fr_pI (ma_fr_pI (ma_fr_pI (ma_fr_pI (ma_fr_r _ _ _) (.inl (by simp)) _) (.inl (by simp)) _) (.inl (by simp)) _) (.inl (by simp)) _) (.inl (by simp)) _, Lc, ?_, fun j hj => ?_⟩
  · rw [ma_Ik, if_pos rfl, if_pos rfl]; rfl
  · have hj : j < Y.1 + 1 := hj
    show _ = (if j = Y.1 then d else Y.2 j) 0 ∧ _ = (if j = Y.1 then d else Y.2 j) 1 ∧ _ = (if j = Y.1 then d else Y.2 j) 2 ∧ (nb = 3 → _ = (if j = Y.1 then d else Y.2 j) 3)
    simp (disch := omega) only [ma_Ik, if_pos, if_neg]
    by_cases q : j = Y.1
    · exact ⟨by rw [if_pos q, if_pos trivial, if_pos q], by rw [if_pos q, if_pos trivial, if_pos q], by rw [if_pos q, if_pos trivial, if_pos q], fun z => by rw [if_pos q, if_pos trivial, if_pos q]; exact hx z⟩
    · have w := L.2.2 j (by omega)
      exact ⟨by rw [if_neg q, if_neg q]; exact w.1, by rw [if_neg q, if_neg q]; exact w.2.1, by rw [if_neg q, if_neg q]; exact w.2.2.1, fun z => by rw [if_neg q, if_neg q]; exact w.2.2.2 z⟩
theorem c_94 (H : ma_H h) (C : tx_C h D) (G : tx_G D) (hl : l < 14) : f_94 h 163 (nI l) = some (if tx_fu D l then 1 else 0) := by
  have g1 := G.1
  have g2 := G.2.1
  have V := C.1
  unfold f_94 tx_fu
  by_cases c0 : l = 0
  · rw [if_neg (not_not_intro (show nI l = 0 by rw [c0]; rfl)), if_pos c0, if_pos (mi_163 H), mr_163_0 H, Option.bind_some, if_pos (mi_164 H), V.2.1]
    by_cases c : 6 ≤ D.1 0 0
    · rw [if_neg (fun z => by have := (lD6 (show D.1 0 0 < 2 ^ 31 by omega)).mp z; omega), if_pos (by simp [c])]
    · rw [if_pos ((lD6 (show D.1 0 0 < 2 ^ 31 by omega)).mpr (by omega)), if_neg (by simp [c])]
  · rw [if_pos (fun z => c0 ((lE0 (show l < 2 ^ 31 by omega)).mp z)), if_neg c0]
    by_cases c1 : l = 1
    · rw [if_neg (not_not_intro (show nI l = 1 by rw [c1]; rfl)), if_pos c1, if_pos (mi_163 H), mr_163_0 H, Option.bind_some, if_pos (mi_164 H), V.2.2.1]
      by_cases c : 6 ≤ D.1 0 1
      · rw [if_neg (fun z => by have := (lD6 (show D.1 0 1 < 2 ^ 31 by omega)).mp z; omega), if_pos (by simp [c])]
      · rw [if_pos ((lD6 (show D.1 0 1 < 2 ^ 31 by omega)).mpr (by omega)), if_neg (by simp [c])]
    · rw [if_pos (fun z => c1 ((lE1 (show l < 2 ^ 31 by omega)).mp z)), if_neg c1, if_pos tx_s2, tx_t2, if_pos tx_s1, tx_t1]
      have d12 : (nI l < 12) ↔ l < 12 := nI_ltI (b := 12) (by omega) (by decide)
      have d5 : (nI l < 5) ↔ l < 5 := lD5 (by omega)
      by_cases c5 : l < 5
      · rw [if_pos (d12.mpr (by omega)), if_pos (d5.mpr c5), if_pos c5]
        rfl
      · rw [if_neg c5]
        by_cases c12 : l < 12
        · rw [if_pos (d12.mpr c12), if_neg (fun z => c5 (d5.mp z)), if_pos c12, if_pos (mi_163 H), mr_163_1 H, Option.bind_some, if_pos (mi_171 H), c_71 H C.2.2.2.1 (by decide) G.2.2.2.2.2.2.2.1.1, Option.bind_some]
          by_cases c : 40 ≤ D.2.2.1.1
          · rw [if_pos c, if_neg (by decide), if_pos (by simp [c])]
          · rw [if_neg c, if_pos rfl, if_neg (by simp [c])]
        · rw [if_neg (fun z => c12 (d12.mp z)), if_neg c12, if_pos (mi_163 H), mr_163_2 H, Option.bind_some, if_pos (mi_176 H), c_71 H C.2.2.2.2 (by decide) G.2.2.2.2.2.2.2.2.1, Option.bind_some]
          by_cases c : 8 ≤ D.2.2.2.1
          · rw [if_pos c, if_pos (.inr rfl), if_pos (by simp [c])]
          · rw [if_neg c, if_pos (.inl rfl), if_neg (by simp [c])]
theorem tx_my (a b : Nat) (ha : a < 2 ^ 31) (hb : b < 2 ^ 31) : (if nI a < nI b then nI b else nI a) = nI (tx_mx a b) := by
  unfold tx_mx
  by_cases c : a < b
  · rw [if_pos ((nI_ltI ha hb).mpr c), if_pos c]
  · rw [if_neg (fun z => c ((nI_ltI ha hb).mp z)), if_neg c]
theorem c_97a (H : ma_H h) (C : tx_C h D) (hn : ∀ k, k < 3 → pb_I h 181 k = tx_nu v (sp_nc 0) k) (nf : D.1 0 0 < 6) : ∃ g, f_97 h 163 0 = some g ∧ ma_fr tx_ls [(163, 10), (163, 11)] h g ∧ tx_C g (tx_st 0 v D) := by
  have V := C.1
  have c0 : pb_I h 164 0 = nI (D.1 0 0) := V.2.1
  have cl : (nI (D.1 0 0)).toNatClampNeg = D.1 0 0 := nI_clamp (by omega)
  have n0 : pb_I h 181 0 = nI (v 0) := (hn 0 (by decide)).trans (if_pos (by decide))
  have x0 : pb_ar h 181 12 0 := mx_181 H (j := 0) (by decide)
  have k : pb_I (pb_pI h 165 (D.1 0 0) (nI (v 0))) 164 0 = nI (D.1 0 0) := by rw [ma_Ik, if_neg (by decide)]; exact c0
  have e : f_97 h 163 0 = some (pb_pI (pb_pI h 165 (D.1 0 0) (nI (v 0))) 164 0 (nI (D.1 0 0 + 1))) := by
    unfold f_97
    rw [if_pos tx_s2, tx_t2, if_pos (by decide), if_pos tx_s1, tx_t1, if_pos (by decide), if_neg (not_not_intro rfl), if_pos (mi_163 H), mr_163_0 H, Option.bind_some, if_pos (mi_164 H), mr_164_2 H, Option.bind_some, mr_163_12 H, Option.bind_some, if_pos x0]
    simp only [tx_z0, n0, c0, cl, if_pos (mx_165 H nf), k, nI_1, pb_hb]
  refine ⟨_, e, ma_fr_pI (ma_fr_pI (ma_fr_r _ _ _) (.inl (by decide)) _) (.inl (by decide)) _, ?_⟩
  have o1 : ∀ o, o ≠ 164 → o ≠ 165 → pb_I (pb_pI (pb_pI h 165 (D.1 0 0) (nI (v 0))) 164 0 (nI (D.1 0 0 + 1))) o = pb_I h o := fun o p q => by rw [ma_I_pI, if_neg p, ma_I_pI, if_neg q]
  have u : tx_st 0 v D = (tx_u (tx_u D.1 1 (D.1 0 0) (v 0)) 0 0 (D.1 0 0 + 1), D.2) := if_pos rfl
  rw [u]
  refine ⟨⟨V.1, ?_, ?_, fun m hm => ?_, fun m hm => ?_, fun m hm => ?_, fun m hm => ?_, fun m hm => ?_, fun m hm => ?_⟩, ?_, ?_, ?_, ?_⟩
  · dsimp only; rw [tx_u_e, ma_Ik, if_pos rfl, if_pos rfl]
  · dsimp only; rw [tx_u_n _ (by omega), tx_u_n _ (by omega), ma_Ik, if_pos rfl, if_neg (by decide), ma_Ik, if_neg (by decide)]; exact V.2.2.1
  · dsimp only at hm ⊢
    rw [tx_u_e] at hm
    rw [tx_u_n _ (by omega), ma_Ik, if_neg (by decide), ma_Ik, if_pos rfl]
    by_cases q : m = D.1 0 0
    · rw [if_pos q, q, tx_u_e]
    · rw [if_neg q, tx_u_n _ (by omega)]; exact V.2.2.2.1 m (by omega)
  · dsimp only; rw [tx_u_n _ (by omega), tx_u_n _ (by omega), o1 _ (by decide) (by decide)]; exact V.2.2.2.2.1 m hm
  · dsimp only at hm ⊢
    rw [tx_u_n _ (by omega), tx_u_n _ (by omega)] at hm
    rw [tx_u_n _ (by omega), tx_u_n _ (by omega), o1 _ (by decide) (by decide)]; exact V.2.2.2.2.2.1 m hm
  · dsimp only at hm ⊢
    rw [tx_u_n _ (by omega), tx_u_n _ (by omega)] at hm
    rw [tx_u_n _ (by omega), tx_u_n _ (by omega), o1 _ (by decide) (by decide)]; exact V.2.2.2.2.2.2.1 m hm
  · dsimp only; rw [tx_u_n _ (by omega), tx_u_n _ (by omega), o1 _ (by decide) (by decide)]; exact V.2.2.2.2.2.2.2.1 m hm
  · dsimp only; rw [tx_u_n _ (by omega), tx_u_n _ (by omega), o1 _ (by decide) (by decide)]; exact V.2.2.2.2.2.2.2.2 m hm
  · rw [o1 _ (by decide) (by decide)]; exact C.2.1
  · rw [o1 _ (by decide) (by decide)]; exact C.2.2.1
  · exact tx_L_e C.2.2.2.1 (fun o p q => o1 o (by omega) (by omega))
  · exact tx_L_e C.2.2.2.2 (fun o p q => o1 o (by omega) (by omega))
theorem c_97b (H : ma_H h) (C : tx_C h D) (hn : ∀ k, k < 3 → pb_I h 181 k = tx_nu v (sp_nc 1) k) (nf : D.1 0 1 < 6) : ∃ g, f_97 h 163 1 = some g ∧ ma_fr tx_ls [(163, 10), (163, 11)] h g ∧ tx_C g (tx_st 1 v D) := by
  have V := C.1
  have c1 : pb_I h 164 1 = nI (D.1 0 1) := V.2.2.1
  have cl : (nI (D.1 0 1)).toNatClampNeg = D.1 0 1 := nI_clamp (by omega)
  have n0 : pb_I h 181 0 = nI (v 0) := (hn 0 (by decide)).trans (if_pos (by decide))
  have n1 : pb_I h 181 1 = nI (v 1) := (hn 1 (by decide)).trans (if_pos (by decide))
  have x0 : pb_ar h 181 12 0 := mx_181 H (j := 0) (by decide)
  have x1 : pb_ar h 181 12 1 := mx_181 H (j := 1) (by decide)
  have k : pb_I (pb_pI h 167 (D.1 0 1) (nI (v 0))) 164 1 = nI (D.1 0 1) := by rw [ma_Ik, if_neg (by decide)]; exact c1
  have k1 : pb_I (pb_pI h 167 (D.1 0 1) (nI (v 0))) 181 1 = nI (v 1) := by rw [ma_Ik, if_neg (by decide)]; exact n1
  have k2 : pb_I (pb_pI (pb_pI h 167 (D.1 0 1) (nI (v 0))) 168 (D.1 0 1) (nI (v 1))) 164 1 = nI (D.1 0 1) := by rw [ma_Ik, if_neg (by decide)]; exact k
  have e : f_97 h 163 1 = some (pb_pI (pb_pI (pb_pI h 167 (D.1 0 1) (nI (v 0))) 168 (D.1 0 1) (nI (v 1))) 164 1 (nI (D.1 0 1 + 1))) := by
    unfold f_97
    rw [if_pos tx_s2, tx_t2, if_pos (by decide), if_pos tx_s1, tx_t1, if_pos (by decide), if_pos (by decide), if_neg (not_not_intro rfl), if_pos (mi_163 H), mr_163_0 H, Option.bind_some, if_pos (mi_164 H), mr_164_4 H, Option.bind_some, mr_163_12 H, Option.bind_some, if_pos x0]
    simp only [tx_z0, tx_z1, n0, c1, cl, if_pos (mx_167 H nf), mr_164_5 H, Option.bind_some, if_pos x1, k, if_pos (mx_168 H nf), k1, pb_hb, k2, nI_1]
  refine ⟨_, e, ma_fr_pI (ma_fr_pI (ma_fr_pI (ma_fr_r _ _ _) (.inl (by decide)) _) (.inl (by decide)) _) (.inl (by decide)) _, ?_⟩
  have o1 : ∀ o, o ≠ 164 → o ≠ 167 → o ≠ 168 → pb_I (pb_pI (pb_pI (pb_pI h 167 (D.1 0 1) (nI (v 0))) 168 (D.1 0 1) (nI (v 1))) 164 1 (nI (D.1 0 1 + 1))) o = pb_I h o := fun o p q r => by rw [ma_I_pI, if_neg p, ma_I_pI, if_neg r, ma_I_pI, if_neg q]
  have u : tx_st 1 v D = (tx_u (tx_u (tx_u D.1 3 (D.1 0 1) (v 0)) 4 (D.1 0 1) (v 1)) 0 1 (D.1 0 1 + 1), D.2) := (if_neg (by decide)).trans (if_pos rfl)
  rw [u]
  refine ⟨⟨V.1, ?_, ?_, fun m hm => ?_, fun m hm => ?_, fun m hm => ?_, fun m hm => ?_, fun m hm => ?_, fun m hm => ?_⟩, ?_, ?_, ?_, ?_⟩
  · dsimp only; rw [tx_u_n _ (by omega), tx_u_n _ (by omega), tx_u_n _ (by omega), ma_Ik, if_pos rfl, if_neg (by decide), ma_Ik, if_neg (by decide), ma_Ik, if_neg (by decide)]; exact V.2.1
  · dsimp only; rw [tx_u_e, ma_Ik, if_pos rfl, if_pos rfl]
  · dsimp only at hm ⊢
    rw [tx_u_n _ (by omega), tx_u_n _ (by omega), tx_u_n _ (by omega)] at hm
    rw [tx_u_n _ (by omega), tx_u_n _ (by omega), tx_u_n _ (by omega), o1 _ (by decide) (by decide) (by decide)]; exact V.2.2.2.1 m hm
  · dsimp only; rw [tx_u_n _ (by omega), tx_u_n _ (by omega), tx_u_n _ (by omega), o1 _ (by decide) (by decide) (by decide)]; exact V.2.2.2.2.1 m hm
  · dsimp only at hm ⊢
    rw [tx_u_e] at hm
    rw [tx_u_n _ (by omega), tx_u_n _ (by omega), ma_Ik, if_neg (by decide), ma_Ik, if_neg (by decide), ma_Ik, if_pos rfl]
    by_cases q : m = D.1 0 1
    · rw [if_pos q, q, tx_u_e]
    · rw [if_neg q, tx_u_n _ (by omega)]; exact V.2.2.2.2.2.1 m (by omega)
  · dsimp only at hm ⊢
    rw [tx_u_e] at hm
    rw [tx_u_n _ (by omega), ma_Ik, if_neg (by decide), ma_Ik, if_pos rfl]
    by_cases q : m = D.1 0 1
    · rw [if_pos q, q, tx_u_e]
    · rw [if_neg q, tx_u_n _ (by omega), tx_u_n _ (by omega), ma_Ik, if_neg (by decide)]; exact V.2.2.2.2.2.2.1 m (by omega)
  · dsimp only; rw [tx_u_n _ (by omega), tx_u_n _ (by omega), tx_u_n _ (by omega), o1 _ (by decide) (by decide) (by decide)]; exact V.2.2.2.2.2.2.2.1 m hm
  · dsimp only; rw [tx_u_n _ (by omega), tx_u_n _ (by omega), tx_u_n _ (by omega), o1 _ (by decide) (by decide) (by decide)]; exact V.2.2.2.2.2.2.2.2 m hm
  · rw [o1 _ (by decide) (by decide) (by decide)]; exact C.2.1
  · rw [o1 _ (by decide) (by decide) (by decide)]; exact C.2.2.1
  · exact tx_L_e C.2.2.2.1 (fun o p q => o1 o (by omega) (by omega) (by omega))
  · exact tx_L_e C.2.2.2.2 (fun o p q => o1 o (by omega) (by omega) (by omega))
theorem c_97c (H : ma_H h) (C : tx_C h D) (G : tx_G D) (hn : ∀ k, k < 3 → pb_I h 181 k = tx_nu v (sp_nc 2) k) (ok : tx_ok 2 v) : ∃ g, f_97 h 163 2 = some g ∧ ma_fr tx_ls [(163, 10), (163, 11)] h g ∧ tx_C g (tx_st 2 v D) := by
  have V := C.1
  have o0 : v 0 ≤ 5 := (ok 0 (by decide)).2
  have o1 : v 1 ≤ 5 := (ok 1 (by decide)).2
  have g4 := G.2.2.2.1
  have cl : (nI (v 0)).toNatClampNeg = v 0 := nI_clamp (by omega)
  have n0 : pb_I h 181 0 = nI (v 0) := (hn 0 (by decide)).trans (if_pos (by decide))
  have n1 : pb_I h 181 1 = nI (v 1) := (hn 1 (by decide)).trans (if_pos (by decide))
  have x0 : pb_ar h 181 12 0 := mx_181 H (j := 0) (by decide)
  have x1 : pb_ar h 181 12 1 := mx_181 H (j := 1) (by decide)
  have a0 : pb_I h 166 (v 0) = nI (D.1 2 (v 0)) := V.2.2.2.2.1 (v 0) (by omega)
  have k1 : ∀ y, pb_I (pb_pI h 166 (v 0) y) 181 0 = nI (v 0) := fun y => by rw [ma_Ik, if_neg (by decide)]; exact n0
  have k2 : ∀ y, pb_I (pb_pI h 166 (v 0) y) 163 10 = nI D.2.1.1 := fun y => by rw [ma_Ik, if_neg (by decide)]; exact C.2.1
  have e : f_97 h 163 2 = some (pb_pI (pb_pI h 166 (v 0) (nI (D.1 2 (v 0) ||| 2 ^ v 1))) 163 10 (nI (tx_mx D.2.1.1 (v 0 + 1)))) := by
    unfold f_97
    rw [if_pos tx_s2, tx_t2, if_pos (by decide), if_pos tx_s1, tx_t1, if_pos (by decide), if_pos (by decide), if_pos (by decide), if_neg (not_not_intro rfl), if_pos (mi_163 H), mr_163_0 H, Option.bind_some, if_pos (mi_164 H), mr_164_3 H, Option.bind_some, mr_163_12 H, Option.bind_some, if_pos x0]
    simp only [tx_z0, tx_z1, n0, n1, cl, if_pos (mx_166 H (show v 0 < 6 by omega)), if_pos x1, a0, ma_shl (show v 1 < 31 by omega), fa_or, pb_hb, k1, k2, nI_1, tx_my D.2.1.1 (v 0 + 1) (show D.2.1.1 < 2 ^ 31 by omega) (show v 0 + 1 < 2 ^ 31 by omega)]
  refine ⟨_, e, ma_fr_pI (ma_fr_pI (ma_fr_r _ _ _) (.inl (by decide)) _) (.inr (by decide)) _, ?_⟩
  have w : ∀ o, o ≠ 163 → o ≠ 166 → pb_I (pb_pI (pb_pI h 166 (v 0) (nI (D.1 2 (v 0) ||| 2 ^ v 1))) 163 10 (nI (tx_mx D.2.1.1 (v 0 + 1)))) o = pb_I h o := fun o p q => by rw [ma_I_pI, if_neg p, ma_I_pI, if_neg q]
  have u : tx_st 2 v D = (tx_u D.1 2 (v 0) (D.1 2 (v 0) ||| 2 ^ v 1), (tx_mx D.2.1.1 (v 0 + 1), D.2.1.2), D.2.2) := (if_neg (by decide)).trans ((if_neg (by decide)).trans (if_pos rfl))
  rw [u]
  refine ⟨⟨V.1, ?_, ?_, fun m hm => ?_, fun m hm => ?_, fun m hm => ?_, fun m hm => ?_, fun m hm => ?_, fun m hm => ?_⟩, ?_, ?_, ?_, ?_⟩
  · dsimp only; rw [tx_u_n _ (by omega), w _ (by decide) (by decide)]; exact V.2.1
  · dsimp only; rw [tx_u_n _ (by omega), w _ (by decide) (by decide)]; exact V.2.2.1
  · dsimp only at hm ⊢
    rw [tx_u_n _ (by omega)] at hm
    rw [tx_u_n _ (by omega), w _ (by decide) (by decide)]; exact V.2.2.2.1 m hm
  · dsimp only
    rw [ma_Ik, if_neg (by decide), ma_Ik, if_pos rfl]
    by_cases q : m = v 0
    · rw [if_pos q, q, tx_u_e]
    · rw [if_neg q, tx_u_n _ (by omega)]; exact V.2.2.2.2.1 m hm
  · dsimp only at hm ⊢
    rw [tx_u_n _ (by omega)] at hm
    rw [tx_u_n _ (by omega), w _ (by decide) (by decide)]; exact V.2.2.2.2.2.1 m hm
  · dsimp only at hm ⊢
    rw [tx_u_n _ (by omega)] at hm
    rw [tx_u_n _ (by omega), w _ (by decide) (by decide)]; exact V.2.2.2.2.2.2.1 m hm
  · dsimp only; rw [tx_u_n _ (by omega), w _ (by decide) (by decide)]; exact V.2.2.2.2.2.2.2.1 m hm
  · dsimp only; rw [tx_u_n _ (by omega), w _ (by decide) (by decide)]; exact V.2.2.2.2.2.2.2.2 m hm
  · rw [ma_Ik, if_pos rfl, if_pos rfl]
  · rw [ma_Ik, if_pos rfl, if_neg (by decide), ma_Ik, if_neg (by decide)]; exact C.2.2.1
  · exact tx_L_e C.2.2.2.1 (fun o p q => w o (by omega) (by omega))
  · exact tx_L_e C.2.2.2.2 (fun o p q => w o (by omega) (by omega))
theorem c_97d (H : ma_H h) (C : tx_C h D) (G : tx_G D) (hn : ∀ k, k < 3 → pb_I h 181 k = tx_nu v (sp_nc 3) k) (ok : tx_ok 3 v) : ∃ g, f_97 h 163 3 = some g ∧ ma_fr tx_ls [(163, 10), (163, 11)] h g ∧ tx_C g (tx_st 3 v D) := by
  have V := C.1
  have o0 : v 0 ≤ 5 := (ok 0 (by decide)).2
  have o1 : v 1 ≤ 5 := (ok 1 (by decide)).2
  have g5 := G.2.2.2.2.1
  have cl : (nI (v 0)).toNatClampNeg = v 0 := nI_clamp (by omega)
  have n0 : pb_I h 181 0 = nI (v 0) := (hn 0 (by decide)).trans (if_pos (by decide))
  have n1 : pb_I h 181 1 = nI (v 1) := (hn 1 (by decide)).trans (if_pos (by decide))
  have x0 : pb_ar h 181 12 0 := mx_181 H (j := 0) (by decide)
  have x1 : pb_ar h 181 12 1 := mx_181 H (j := 1) (by decide)
  have k0 : ∀ y, pb_I (pb_pI h 163 11 y) 169 (v 0) = nI (D.1 5 (v 0)) := fun y => by rw [ma_Ik, if_neg (by decide)]; exact V.2.2.2.2.2.2.2.1 (v 0) (by omega)
  have k1 : ∀ y, pb_I (pb_pI h 163 11 y) 181 0 = nI (v 0) := fun y => by rw [ma_Ik, if_neg (by decide)]; exact n0
  have k2 : ∀ y, pb_I (pb_pI h 163 11 y) 181 1 = nI (v 1) := fun y => by rw [ma_Ik, if_neg (by decide)]; exact n1
  have c11 := C.2.2.1
  have e : f_97 h 163 3 = some (pb_pI (pb_pI h 163 11 (nI (tx_mx D.2.1.2 (v 0 + 1)))) 169 (v 0) (nI (D.1 5 (v 0) ||| 2 ^ v 1))) := by
    unfold f_97
    rw [if_pos tx_s2, tx_t2, if_pos (by decide), if_pos tx_s1, tx_t1, if_pos (by decide), if_pos (by decide), if_pos (by decide), if_pos (by decide), if_pos (mi_163 H), mr_163_12 H, Option.bind_some, if_pos x0, if_neg (not_not_intro rfl), mr_163_0 H, Option.bind_some, if_pos (mi_164 H), mr_164_6 H, Option.bind_some]
    simp only [tx_z0, tx_z1, n0, c11, nI_1, tx_my D.2.1.2 (v 0 + 1) (show D.2.1.2 < 2 ^ 31 by omega) (show v 0 + 1 < 2 ^ 31 by omega), k1, k2, cl, if_pos (mx_169 H (show v 0 < 6 by omega)), if_pos x1, k0, ma_shl (show v 1 < 31 by omega), fa_or, pb_hb]
  refine ⟨_, e, ma_fr_pI (ma_fr_pI (ma_fr_r _ _ _) (.inr (by decide)) _) (.inl (by decide)) _, ?_⟩
  have w : ∀ o, o ≠ 163 → o ≠ 169 → pb_I (pb_pI (pb_pI h 163 11 (nI (tx_mx D.2.1.2 (v 0 + 1)))) 169 (v 0) (nI (D.1 5 (v 0) ||| 2 ^ v 1))) o = pb_I h o := fun o p q => by rw [ma_I_pI, if_neg q, ma_I_pI, if_neg p]
  have u : tx_st 3 v D = (tx_u D.1 5 (v 0) (D.1 5 (v 0) ||| 2 ^ v 1), (D.2.1.1, tx_mx D.2.1.2 (v 0 + 1)), D.2.2) := (if_neg (by decide)).trans ((if_neg (by decide)).trans ((if_neg (by decide)).trans (if_pos rfl)))
  rw [u]
  refine ⟨⟨V.1, ?_, ?_, fun m hm => ?_, fun m hm => ?_, fun m hm => ?_, fun m hm => ?_, fun m hm => ?_, fun m hm => ?_⟩, ?_, ?_, ?_, ?_⟩
  · dsimp only; rw [tx_u_n _ (by omega), w _ (by decide) (by decide)]; exact V.2.1
  · dsimp only; rw [tx_u_n _ (by omega), w _ (by decide) (by decide)]; exact V.2.2.1
  · dsimp only at hm ⊢
    rw [tx_u_n _ (by omega)] at hm
    rw [tx_u_n _ (by omega), w _ (by decide) (by decide)]; exact V.2.2.2.1 m hm
  · dsimp only; rw [tx_u_n _ (by omega), w _ (by decide) (by decide)]; exact V.2.2.2.2.1 m hm
  · dsimp only at hm ⊢
    rw [tx_u_n _ (by omega)] at hm
    rw [tx_u_n _ (by omega), w _ (by decide) (by decide)]; exact V.2.2.2.2.2.1 m hm
  · dsimp only at hm ⊢
    rw [tx_u_n _ (by omega)] at hm
    rw [tx_u_n _ (by omega), w _ (by decide) (by decide)]; exact V.2.2.2.2.2.2.1 m hm
  · dsimp only
    rw [ma_Ik, if_pos rfl]
    by_cases q : m = v 0
    · rw [if_pos q, q, tx_u_e]
    · rw [if_neg q, tx_u_n _ (by omega), ma_Ik, if_neg (by decide)]; exact V.2.2.2.2.2.2.2.1 m hm
  · dsimp only; rw [tx_u_n _ (by omega), w _ (by decide) (by decide)]; exact V.2.2.2.2.2.2.2.2 m hm
  · rw [ma_Ik, if_neg (by decide), ma_Ik, if_pos rfl, if_neg (by decide)]; exact C.2.1
  · rw [ma_Ik, if_neg (by decide), ma_Ik, if_pos rfl, if_pos rfl]
  · exact tx_L_e C.2.2.2.1 (fun o p q => w o (by omega) (by omega))
  · exact tx_L_e C.2.2.2.2 (fun o p q => w o (by omega) (by omega))
theorem c_97e (H : ma_H h) (C : tx_C h D) (G : tx_G D) (hn : ∀ k, k < 3 → pb_I h 181 k = tx_nu v (sp_nc 4) k) (ok : tx_ok 4 v) : ∃ g, f_97 h 163 4 = some g ∧ ma_fr tx_ls [(163, 10), (163, 11)] h g ∧ tx_C g (tx_st 4 v D) := by
  have V := C.1
  have o0 : v 0 ≤ 5 := (ok 0 (by decide)).2
  have o1 : v 1 ≤ 5 := (ok 1 (by decide)).2
  have g5 := G.2.2.2.2.1
  have cl : (nI (6 * v 0 + v 1)).toNatClampNeg = 6 * v 0 + v 1 := nI_clamp (by omega)
  have n0 : pb_I h 181 0 = nI (v 0) := (hn 0 (by decide)).trans (if_pos (by decide))
  have n1 : pb_I h 181 1 = nI (v 1) := (hn 1 (by decide)).trans (if_pos (by decide))
  have n2 : pb_I h 181 2 = nI (v 2) := (hn 2 (by decide)).trans (if_pos (by decide))
  have x0 : pb_ar h 181 12 0 := mx_181 H (j := 0) (by decide)
  have x1 : pb_ar h 181 12 1 := mx_181 H (j := 1) (by decide)
  have x2 : pb_ar h 181 12 2 := mx_181 H (j := 2) (by decide)
  have k1 : ∀ y, pb_I (pb_pI h 163 11 y) 181 0 = nI (v 0) := fun y => by rw [ma_Ik, if_neg (by decide)]; exact n0
  have k2 : ∀ y, pb_I (pb_pI h 163 11 y) 181 1 = nI (v 1) := fun y => by rw [ma_Ik, if_neg (by decide)]; exact n1
  have k3 : ∀ y, pb_I (pb_pI h 163 11 y) 181 2 = nI (v 2) := fun y => by rw [ma_Ik, if_neg (by decide)]; exact n2
  have c11 := C.2.2.1
  have e : f_97 h 163 4 = some (pb_pI (pb_pI h 163 11 (nI (tx_mx D.2.1.2 (v 0 + 1)))) 170 (6 * v 0 + v 1) (nI (v 2))) := by
    unfold f_97
    rw [if_pos tx_s2, tx_t2, if_pos (by decide), if_pos tx_s1, tx_t1, if_pos (by decide), if_pos (by decide), if_pos (by decide), if_pos (by decide), if_pos (mi_163 H), mr_163_12 H, Option.bind_some, if_pos x0, if_pos (by decide), mr_163_0 H, Option.bind_some, if_pos (mi_164 H), mr_164_7 H, Option.bind_some, if_pos x1, if_pos x2]
    simp only [tx_z0, tx_z1, tx_z2, n0, c11, nI_1, tx_my D.2.1.2 (v 0 + 1) (show D.2.1.2 < 2 ^ 31 by omega) (show v 0 + 1 < 2 ^ 31 by omega), k1, k2, k3, lJ6, nI_add, cl, if_pos (mx_170 H (show 6 * v 0 + v 1 < 36 by omega)), pb_hb]
  refine ⟨_, e, ma_fr_pI (ma_fr_pI (ma_fr_r _ _ _) (.inr (by decide)) _) (.inl (by decide)) _, ?_⟩
  have w : ∀ o, o ≠ 163 → o ≠ 170 → pb_I (pb_pI (pb_pI h 163 11 (nI (tx_mx D.2.1.2 (v 0 + 1)))) 170 (6 * v 0 + v 1) (nI (v 2))) o = pb_I h o := fun o p q => by rw [ma_I_pI, if_neg q, ma_I_pI, if_neg p]
  have u : tx_st 4 v D = (tx_u D.1 6 (6 * v 0 + v 1) (v 2), (D.2.1.1, tx_mx D.2.1.2 (v 0 + 1)), D.2.2) := (if_neg (by decide)).trans ((if_neg (by decide)).trans ((if_neg (by decide)).trans ((if_neg (by decide)).trans (if_pos rfl))))
  rw [u]
  refine ⟨⟨V.1, ?_, ?_, fun m hm => ?_, fun m hm => ?_, fun m hm => ?_, fun m hm => ?_, fun m hm => ?_, fun m hm => ?_⟩, ?_, ?_, ?_, ?_⟩
  · dsimp only; rw [tx_u_n _ (by omega), w _ (by decide) (by decide)]; exact V.2.1
  · dsimp only; rw [tx_u_n _ (by omega), w _ (by decide) (by decide)]; exact V.2.2.1
  · dsimp only at hm ⊢
    rw [tx_u_n _ (by omega)] at hm
    rw [tx_u_n _ (by omega), w _ (by decide) (by decide)]; exact V.2.2.2.1 m hm
  · dsimp only; rw [tx_u_n _ (by omega), w _ (by decide) (by decide)]; exact V.2.2.2.2.1 m hm
  · dsimp only at hm ⊢
    rw [tx_u_n _ (by omega)] at hm
    rw [tx_u_n _ (by omega), w _ (by decide) (by decide)]; exact V.2.2.2.2.2.1 m hm
  · dsimp only at hm ⊢
    rw [tx_u_n _ (by omega)] at hm
    rw [tx_u_n _ (by omega), w _ (by decide) (by decide)]; exact V.2.2.2.2.2.2.1 m hm
  · dsimp only; rw [tx_u_n _ (by omega), w _ (by decide) (by decide)]; exact V.2.2.2.2.2.2.2.1 m hm
  · dsimp only
    rw [ma_Ik, if_pos rfl]
    by_cases q : m = 6 * v 0 + v 1
    · rw [if_pos q, q, tx_u_e]
    · rw [if_neg q, tx_u_n _ (by omega), ma_Ik, if_neg (by decide)]; exact V.2.2.2.2.2.2.2.2 m hm
  · rw [ma_Ik, if_neg (by decide), ma_Ik, if_pos rfl, if_neg (by decide)]; exact C.2.1
  · rw [ma_Ik, if_neg (by decide), ma_Ik, if_pos rfl, if_pos rfl]
  · exact tx_L_e C.2.2.2.1 (fun o p q => w o (by omega) (by omega))
  · exact tx_L_e C.2.2.2.2 (fun o p q => w o (by omega) (by omega))
theorem c_97f (H : ma_H h) (C : tx_C h D) (h5 : 5 ≤ l) (h12 : l < 12) (hn : ∀ k, k < 3 → pb_I h 181 k = tx_nu v (sp_nc l) k) (nf : D.2.2.1.1 < 40) : ∃ g, f_97 h 163 (nI l) = some g ∧ ma_fr tx_ls [(163, 10), (163, 11)] h g ∧ tx_C g (tx_st l v D) := by
  have x0 : pb_ar h 181 12 0 := mx_181 H (j := 0) (by decide)
  have x1 : pb_ar h 181 12 1 := mx_181 H (j := 1) (by decide)
  have x2 : pb_ar h 181 12 2 := mx_181 H (j := 2) (by decide)
  have d12 : nI l < 12 := (nI_ltI (b := 12) (by omega) (by decide)).mpr h12
  have d5 : ¬ nI l < 5 := fun z => by have := (lD5 (show l < 2 ^ 31 by omega)).mp z; omega
  obtain ⟨g, e, f, L⟩ := c_72 H C.2.2.2.1 (by decide) nf (tx_dd (l - 5) v (sp_nc l)) (tx_dd (l - 5) v (sp_nc l) 3) (fun _ => rfl)
  have n0 : pb_I h 181 0 = tx_dd (l - 5) v (sp_nc l) 1 := hn 0 (by decide)
  have n1 : pb_I h 181 1 = tx_dd (l - 5) v (sp_nc l) 2 := hn 1 (by decide)
  have n2 : pb_I h 181 2 = tx_dd (l - 5) v (sp_nc l) 3 := hn 2 (by decide)
  have n3 : nI l - 5 = tx_dd (l - 5) v (sp_nc l) 0 := pk_sub (b := 5) h5
  refine ⟨g, ?_, ma_fr_w f (by decide) (by decide), ?_⟩
  · unfold f_97
    rw [if_pos tx_s2, tx_t2, if_pos d12, if_pos tx_s1, tx_t1, if_neg d5, if_pos (mi_163 H), mr_163_1 H, Option.bind_some, mr_163_12 H, Option.bind_some, if_pos x0, if_pos x1, if_pos x2, if_pos (mi_171 H), tx_z0, tx_z1, tx_z2, n0, n1, n2, n3, e]
    rfl
  · have u : tx_st l v D = (D.1, D.2.1, tx_row D.2.2.1 (tx_dd (l - 5) v (sp_nc l)), D.2.2.2) := (if_neg (by omega)).trans ((if_neg (by omega)).trans ((if_neg (by omega)).trans ((if_neg (by omega)).trans ((if_neg (by omega)).trans (if_pos h12)))))
    rw [u]
    have w : ∀ o, o < 171 ∨ 175 < o → pb_I g o = pb_I h o := fun o q => ma_fr_o f (by simp; omega) (by simp)
    exact ⟨ma_V_e C.1 (fun o a b => w o (by omega)), by rw [w 163 (by omega)]; exact C.2.1, by rw [w 163 (by omega)]; exact C.2.2.1, L, tx_L_e C.2.2.2.2 (fun o a b => w o (by omega))⟩
theorem c_97g (H : ma_H h) (C : tx_C h D) (h12 : 12 ≤ l) (h14 : l < 14) (hn : ∀ k, k < 3 → pb_I h 181 k = tx_nu v (sp_nc l) k) (nf : D.2.2.2.1 < 8) : ∃ g, f_97 h 163 (nI l) = some g ∧ ma_fr tx_ls [(163, 10), (163, 11)] h g ∧ tx_C g (tx_st l v D) := by
  have x0 : pb_ar h 181 12 0 := mx_181 H (j := 0) (by decide)
  have x1 : pb_ar h 181 12 1 := mx_181 H (j := 1) (by decide)
  have d12 : ¬ nI l < 12 := fun z => by have := (nI_ltI (b := 12) (show l < 2 ^ 31 by omega) (by decide)).mp z; omega
  obtain ⟨g, e, f, L⟩ := c_72 H C.2.2.2.2 (by decide) nf (tx_dd (l - 12) v (sp_nc l)) (-1) (fun q => absurd q (by decide))
  have n0 : pb_I h 181 0 = tx_dd (l - 12) v (sp_nc l) 1 := hn 0 (by decide)
  have n1 : pb_I h 181 1 = tx_dd (l - 12) v (sp_nc l) 2 := hn 1 (by decide)
  have n3 : nI l - 12 = tx_dd (l - 12) v (sp_nc l) 0 := pk_sub (b := 12) h12
  refine ⟨g, ?_, ma_fr_w f (by decide) (by decide), ?_⟩
  · unfold f_97
    rw [if_pos tx_s2, tx_t2, if_neg d12, if_pos (mi_163 H), mr_163_2 H, Option.bind_some, mr_163_12 H, Option.bind_some, if_pos x0, if_pos x1, if_pos (mi_176 H), tx_z0, tx_z1, n0, n1, n3, e]
    rfl
  · have u : tx_st l v D = (D.1, D.2.1, D.2.2.1, tx_row D.2.2.2 (tx_dd (l - 12) v (sp_nc l))) := (if_neg (by omega)).trans ((if_neg (by omega)).trans ((if_neg (by omega)).trans ((if_neg (by omega)).trans ((if_neg (by omega)).trans (if_neg (by omega))))))
    rw [u]
    have w : ∀ o, o < 176 ∨ 180 < o → pb_I g o = pb_I h o := fun o q => ma_fr_o f (by simp; omega) (by simp)
    exact ⟨ma_V_e C.1 (fun o a b => w o (by omega)), by rw [w 163 (by omega)]; exact C.2.1, by rw [w 163 (by omega)]; exact C.2.2.1, tx_L_e C.2.2.2.1 (fun o a b => w o (by omega)), L⟩
theorem c_97 (H : ma_H h) (C : tx_C h D) (G : tx_G D) (hl : l < 14) (hn : ∀ k, k < 3 → pb_I h 181 k = tx_nu v (sp_nc l) k) (ok : tx_ok l v) (nf : tx_fu D l = false) : ∃ g, f_97 h 163 (nI l) = some g ∧ ma_fr tx_ls [(163, 10), (163, 11)] h g ∧ tx_C g (tx_st l v D) := by
  unfold tx_fu at nf
  by_cases c0 : l = 0
  · subst c0
    rw [if_pos rfl] at nf
    exact c_97a H C hn (by simpa using nf)
  · rw [if_neg c0] at nf
    by_cases c1 : l = 1
    · subst c1
      rw [if_pos rfl] at nf
      exact c_97b H C hn (by simpa using nf)
    · rw [if_neg c1] at nf
      by_cases c2 : l = 2
      · subst c2; exact c_97c H C G hn ok
      · by_cases c3 : l = 3
        · subst c3; exact c_97d H C G hn ok
        · by_cases c4 : l = 4
          · subst c4; exact c_97e H C G hn ok
          · rw [if_neg (by omega)] at nf
            by_cases c12 : l < 12
            · rw [if_pos c12] at nf
              exact c_97f H C (by omega) c12 hn (by simpa using nf)
            · rw [if_neg c12] at nf
              exact c_97g H C (by omega) hl hn (by simpa using nf)
end

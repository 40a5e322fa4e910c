/-! text: the call, on both sides -/
/-- which of the model's cells a text changes -/
def tx_K (h g : pb_HP) (w : Prop) (s k m : Nat) (D : tx_T) : Prop := pb_I g 218 = pb_I h 218 ∧ (∀ j, j ≠ 0 → pb_I g 219 j = pb_I h 219 j ∧ pb_I g 220 j = pb_I h 220 j ∧ pb_I g 221 j = pb_I h 221 j) ∧ (∀ j, ¬ (w ∧ j = s) → pb_I g 222 j = pb_I h 222 j) ∧ (∀ j, ¬ (w ∧ s = 0 ∧ 68 * k ≤ j ∧ j < 68 * k + 68) → pb_I g 223 j = pb_I h 223 j) ∧ (∀ j, ¬ (w ∧ s = 1 ∧ 161 * k ≤ j ∧ j < 161 * k + 161) → pb_I g 224 j = pb_I h 224 j) ∧ (∀ j, ¬ (w ∧ s = 2 ∧ 25 * k ≤ j ∧ j < 25 * k + 25) → pb_I g 225 j = pb_I h 225 j) ∧ (w → pb_I g 222 s = nI m ∧ (s = 0 → ma_T g k D.1) ∧ (s = 1 → ma_Ly g 224 (161 * k) 4 D.2.2.1) ∧ (s = 2 → ma_Ly g 225 (25 * k) 3 D.2.2.2))
def tx_Z (X : ma_X) (n : Nat) (p : Nat × Nat) : ma_X := (X.1, X.2.1, X.2.2.1, X.2.2.2.1, X.2.2.2.2.1, n, p.1, p.2)
section
variable {h g : pb_HP} {N s k m n i : Nat} {X : ma_X} {D : tx_T} {w : Prop} {p : Nat × Nat}
theorem tx_K_i (hk : k < 2) (hs : s < 3) (Kk : tx_K h g w s k m D) (hi : 1 ≤ i) (G : ma_GX X) (M : ma_MX h i X) : ma_MX g i X := by
  obtain ⟨k8, k9, k2, k3, k4, k5, _⟩ := Kk
  exact ma_MX_sh G M (fun j hj => by rw [k8]) (k9 i (by omega)).1 (k9 i (by omega)).2.1 (k9 i (by omega)).2.2 (fun j hj => k2 _ (by omega)) (fun j hj => k3 _ (by omega)) (fun j hj => k4 _ (by omega)) (fun j hj => k5 _ (by omega))
theorem tx_K_0n (Kk : tx_K h g w s k m D) (nw : ¬ w) (M : ma_MX h 0 X) (e9 : pb_I g 219 0 = nI n) (e0 : pb_I g 220 0 = nI p.1) (e1 : pb_I g 221 0 = mI p.2) : ma_MX g 0 (tx_Z X n p) := by
  obtain ⟨k8, k9, k2, k3, k4, k5, _⟩ := Kk
  have e3 : pb_I g 223 = pb_I h 223 := funext fun j => k3 j (fun q => nw q.1)
  have e4 : pb_I g 224 = pb_I h 224 := funext fun j => k4 j (fun q => nw q.1)
  have e5 : pb_I g 225 = pb_I h 225 := funext fun j => k5 j (fun q => nw q.1)
  have e2 : pb_I g 222 = pb_I h 222 := funext fun j => k2 j (fun q => nw q.1)
  refine ⟨fun j hj => ma_T_e (M.1 j hj) e3, fun j hj => ?_, fun j hj => ?_, fun j hj => ?_, fun j hj => ?_, e9, e0, e1⟩
  · unfold ma_Ly; rw [e4]; exact M.2.1 j hj
  · unfold ma_Ly; rw [e5]; exact M.2.2.1 j hj
  · rw [e2]; exact M.2.2.2.1 j hj
  · rw [k8]; exact M.2.2.2.2.1 j hj
theorem tx_K_0y (G : ma_GX X) (hs : s < 3) (hk : k < 2) (Kk : tx_K h g w s k m D) (yw : w) (M : ma_MX h 0 X) (e9 : pb_I g 219 0 = nI n) (e0 : pb_I g 220 0 = nI p.1) (e1 : pb_I g 221 0 = mI p.2) : ma_MX g 0 (tx_Y (tx_Z X n p) s k m D) := by
  obtain ⟨k8, k9, k2, k3, k4, k5, k7⟩ := Kk
  obtain ⟨z2, z3, z4, z5⟩ := k7 yw
  refine ⟨fun j hj => ?_, fun j hj => ?_, fun j hj => ?_, fun j hj => ?_, fun j hj => ?_, e9, e0, e1⟩
  · show ma_T g (2 * 0 + j) (if s = 0 ∧ j = k then D.1 else X.1 j)
    rw [show 2 * 0 + j = j by omega]
    have t := M.1 j hj
    rw [show 2 * 0 + j = j by omega] at t
    by_cases c : s = 0 ∧ j = k
    · rw [if_pos c, c.2]; exact z3 c.1
    · rw [if_neg c]
      exact ma_T_sh t (fun r hr => k3 _ (fun q => c ⟨q.2.1, by omega⟩))
  · show ma_Ly g 224 (161 * (2 * 0 + j)) 4 (if s = 1 ∧ j = k then D.2.2.1 else X.2.1 j)
    rw [show 2 * 0 + j = j by omega]
    have t := M.2.1 j hj
    rw [show 2 * 0 + j = j by omega] at t
    by_cases c : s = 1 ∧ j = k
    · rw [if_pos c, c.2]; exact z4 c.1
    · rw [if_neg c]
      exact ma_Ly_sh t (n := 40) (c := 161) (G.2.1 j hj).1 (by decide) (fun r hr => k4 _ (fun q => c ⟨q.2.1, by omega⟩))
  · show ma_Ly g 225 (25 * (2 * 0 + j)) 3 (if s = 2 ∧ j = k then D.2.2.2 else X.2.2.1 j)
    rw [show 2 * 0 + j = j by omega]
    have t := M.2.2.1 j hj
    rw [show 2 * 0 + j = j by omega] at t
    by_cases c : s = 2 ∧ j = k
    · rw [if_pos c, c.2]; exact z5 c.1
    · rw [if_neg c]
      exact ma_Ly_sh t (n := 8) (c := 25) (G.2.2.1 j hj).1 (by decide) (fun r hr => k5 _ (fun q => c ⟨q.2.1, by omega⟩))
  · show pb_I g 222 (3 * 0 + j) = nI (if j = s then m else X.2.2.2.1 j)
    have t := M.2.2.2.1 j hj
    rw [show 3 * 0 + j = j by omega] at t ⊢
    by_cases c : j = s
    · rw [if_pos c, c]; exact z2
    · rw [if_neg c, k2 j (fun q => c q.2)]; exact t
  · rw [k8]; exact M.2.2.2.2.1 j hj
theorem tx_OK (G : tx_G D) (h0 : D.2.1.1 ≤ D.1 0 0) (h1 : D.2.1.2 ≤ D.1 0 1) : ma_OK D.1 ∧ ma_OT D.1 := by
  obtain ⟨g1, g2, g3, g4, g5, g6, g7, _⟩ := G
  refine ⟨⟨g1, g2, fun k => ?_, fun q hq => g6 q (by omega), fun q hq => g7 q (by omega)⟩, fun k => ?_⟩
  · have := g3 k; omega
  · have := g3 k; omega
theorem tx_Z_G (G : ma_GX X) (hn : n ≤ 600) (hp : p.1 ≤ 4 ∧ p.2 ≤ 601) : ma_GX (tx_Z X n p) := ⟨G.1, G.2.1, G.2.2.1, G.2.2.2.1, G.2.2.2.2.1, hn, hp.1, hp.2⟩
theorem tx_Y_G (G : ma_GX X) (GD : tx_G D) (O : s = 0 → ma_OK D.1 ∧ ma_OT D.1) (hm : m ≤ 2) : ma_GX (tx_Y X s k m D) := by
  refine ⟨fun j hj => ?_, fun j hj => ?_, fun j hj => ?_, fun j hj => ?_, G.2.2.2.2⟩
  · show ma_OK (if s = 0 ∧ j = k then D.1 else X.1 j) ∧ ma_OT (if s = 0 ∧ j = k then D.1 else X.1 j)
    by_cases c : s = 0 ∧ j = k
    · rw [if_pos c]; exact O c.1
    · rw [if_neg c]; exact G.1 j hj
  · show (if s = 1 ∧ j = k then D.2.2.1 else X.2.1 j).1 ≤ 40 ∧ ∀ r, r < (if s = 1 ∧ j = k then D.2.2.1 else X.2.1 j).1 → ma_gd ((if s = 1 ∧ j = k then D.2.2.1 else X.2.1 j).2 r)
    by_cases c : s = 1 ∧ j = k
    · rw [if_pos c]; exact GD.2.2.2.2.2.2.2.1
    · rw [if_neg c]; exact G.2.1 j hj
  · show (if s = 2 ∧ j = k then D.2.2.2 else X.2.2.1 j).1 ≤ 8 ∧ ∀ r, r < (if s = 2 ∧ j = k then D.2.2.2 else X.2.2.1 j).1 → ma_gf ((if s = 2 ∧ j = k then D.2.2.2 else X.2.2.1 j).2 r)
    by_cases c : s = 2 ∧ j = k
    · rw [if_pos c]; exact GD.2.2.2.2.2.2.2.2
    · rw [if_neg c]; exact G.2.2.1 j hj
  · show (if j = s then m else X.2.2.2.1 j) ≤ 2
    split
    · exact hm
    · exact G.2.2.2.1 j hj
end
/-- the text that lies on the tape, read as a sort -/
def tx_rd (X : ma_X) (s : Nat) : (Nat × Nat) × tx_T := sp_rd X.2.2.2.2.1 X.2.2.2.2.2.1 s (X.2.2.2.2.2.1 + 1) 0 (0, 0) tx_0
section
variable {h : pb_HP} {N s k m : Nat} {X : ma_X}
theorem tx_rd_b (G : ma_GX X) (hs : s < 3) : ((tx_rd X s).1.1 ≤ 4 ∧ (tx_rd X s).1.2 ≤ 601) ∧ tx_G (tx_rd X s).2 ∧ ((tx_rd X s).1.1 = 0 → (tx_rd X s).1 = (0, 0)) ∧ ((tx_rd X s).1.1 = 0 → s = 0 → ma_OK (tx_rd X s).2.1 ∧ ma_OT (tx_rd X s).2.1) := by
  have hn := G.2.2.2.2.2.1
  have b := sp_rd_b (B := X.2.2.2.2.1) (n := X.2.2.2.2.2.1) hs (X.2.2.2.2.2.1 + 1) 0 (0, 0) tx_0 (by omega) (Nat.zero_le _) ⟨Nat.zero_le _, Nat.zero_le _⟩ tx_0_G
  have z := sp_rd_z (B := X.2.2.2.2.1) (n := X.2.2.2.2.2.1) (s := s) (X.2.2.2.2.2.1 + 1) 0 (0, 0) tx_0 (fun _ => rfl)
  refine ⟨⟨b.1.1, Nat.le_trans b.1.2 (by omega)⟩, b.2.1, fun q => Prod.ext q (z q), fun q h0 => ?_⟩
  have := b.2.2 q h0
  exact tx_OK b.2.1 this.1 this.2
theorem c_126 (H : ma_H h) (G : ma_GX X) (C : ma_CX h 1 X) (hs : s < 3) (hk : k < 2) {y : Int32} (e2 : f_102 (pb_pI (pb_pI (pb_pI h 1 5 0) 1 6 0) 1 7 (-1)) 1 (nI s) y = some (nI k)) (hN : 3000 < N) : ∃ g, f_126 N h 0 (nI s) y = some (if (tx_rd X s).1.1 = 0 then nI k else -1, g) ∧ ma_H g ∧ (∀ o, o < 1 ∨ (40 < o ∧ o < 163) ∨ 181 < o → pb_I g o = pb_I h o) ∧ ma_CX g 1 (if (tx_rd X s).1.1 = 0 then tx_Y (tx_Z X 0 (tx_rd X s).1) s k (tx_mx (X.2.2.2.1 s) (k + 1)) (tx_rd X s).2 else tx_Z X 0 (tx_rd X s).1) := by
  have rb := tx_rd_b G hs
  have hn := G.2.2.2.2.2.1
  obtain ⟨h1, e1⟩ : ∃ g, g = pb_pI (pb_pI (pb_pI h 1 5 0) 1 6 0) 1 7 (-1) := ⟨_, rfl⟩
  have H1 : ma_H h1 := by rw [e1]; exact H
  have o1 : ∀ o, o ≠ 1 → pb_I h1 o = pb_I h o := fun o q => by rw [e1, ma_I_pI, if_neg q, ma_I_pI, if_neg q, ma_I_pI, if_neg q]
  obtain ⟨g1, a1, a2, a3, a4, a5⟩ := c_85 (N := N) (h := h1) (n := X.2.2.2.2.2.1) (B := X.2.2.2.2.1) (s := s) H1 (fun j hj => by rw [o1 40 (by decide)]; exact C.2.2.2.2.1 j (by omega)) (fun j hj => G.2.2.2.2.1 j (by omega)) hn hs hN
  have a4 : tx_F g1 (tx_rd X s).1 := a4
  have a5 : (tx_rd X s).1.1 = 0 → tx_C g1 (tx_rd X s).2 := a5
  have w1 : ∀ o, o < 163 ∨ 181 < o → o ≠ 1 → pb_I g1 o = pb_I h o := fun o q r => by rw [a3 o (by simp; omega), o1 o r]
  have g5 : pb_I g1 1 5 = nI 0 := by rw [a3 1 (by decide), e1, ma_Ik, if_pos rfl, if_neg (by decide), ma_Ik, if_pos rfl, if_neg (by decide), ma_Ik, if_pos rfl, if_pos rfl]; rfl
  obtain ⟨g2, e4⟩ : ∃ g, g = pb_pI (pb_pI g1 1 6 (nI (tx_rd X s).1.1)) 1 7 (mI (tx_rd X s).1.2) := ⟨_, rfl⟩
  have H2 : ma_H g2 := by rw [e4]; exact a2
  have o2 : ∀ o, o ≠ 1 → pb_I g2 o = pb_I g1 o := fun o q => by rw [e4, ma_I_pI, if_neg q, ma_I_pI, if_neg q]
  have k4 : pb_I (pb_pI g1 1 6 (nI (tx_rd X s).1.1)) 163 4 = mI (tx_rd X s).1.2 := by rw [ma_Ik, if_neg (by decide)]; exact a4.2
  have k3 : pb_I g2 163 3 = nI (tx_rd X s).1.1 := by rw [o2 163 (by decide)]; exact a4.1
  have C2 : ma_CX g2 1 (tx_Z X 0 (tx_rd X s).1) := ma_CX_t C (fun o a b => by rw [o2 o (by omega), w1 o (by omega) (by omega)]) (by rw [e4, ma_Ik, if_pos rfl, if_neg (by decide), ma_Ik, if_pos rfl, if_neg (by decide)]; exact g5) (by rw [e4, ma_Ik, if_pos rfl, if_neg (by decide), ma_Ik, if_pos rfl, if_pos rfl]) (by rw [e4, ma_Ik, if_pos rfl, if_pos rfl])
  unfold f_126
  rw [if_pos (mi_0 H), mr_0_0 H, Option.bind_some, if_pos (mi_1 H), e2, Option.bind_some, if_pos (fun z => (mF _ (show k < 2 ^ 31 by omega)).mp z), mr_0_3 H, Option.bind_some, mr_1_4 H, Option.bind_some, if_pos (mi_163 H), C.2.2.2.2.2.1, ← e1, a1, Option.bind_some, if_pos (mi_0 a2), mr_0_0 a2, Option.bind_some, mr_0_3 a2, Option.bind_some, if_pos (mi_163 a2), if_pos (mi_1 a2), a4.1, k4, ← e4, k3]
  by_cases c : (tx_rd X s).1.1 = 0
  · rw [if_pos (show nI (tx_rd X s).1.1 = 0 by rw [c]; rfl), if_pos c, if_pos c]
    have CC : tx_C g2 (tx_rd X s).2 := tx_C_e (a5 c) (fun o a b => o2 o (by omega)) (by rw [o2 163 (by decide)]) (by rw [o2 163 (by decide)])
    obtain ⟨g3, b1, b2, b3, b4, b5⟩ := c_104 (s := s) (k := k) H2 C2 CC rb.2.1 (fun q => (rb.2.2.2 c q).1) G.2.2.2.1 hs hk
    rw [b1, Option.bind_some]
    exact ⟨g3, rfl, ma_Hx H2 b2 b3, fun o ho => by rw [b4 o (by omega), o2 o (by omega), w1 o (by omega) (by omega)], b5⟩
  · rw [if_neg (fun z => c ((lE0 (show (tx_rd X s).1.1 < 2 ^ 31 by omega)).mp z)), if_neg c, if_neg c]
    exact ⟨g2, rfl, H2, fun o ho => by rw [o2 o (by omega), w1 o (by omega) (by omega)], C2⟩
theorem m_195k {g1 : pb_HP} (H : ma_H g1) {D : tx_T} (Nn : tx_N g1 s D) (GD : tx_G D) (hs : s < 3) (hk : k < 2) {a b : Int32} (ab : a + b = nI m) (hN : 3000 < N) : ∃ g, f_195_118 N g1 217 (nI s) (nI k) b a (nI s) 222 = some (nI k, g) ∧ ma_fr [222, 223, 224, 225] [] g1 g ∧ (∀ j, ¬ j = s → pb_I g 222 j = pb_I g1 222 j) ∧ (∀ j, ¬ (s = 0 ∧ 68 * k ≤ j ∧ j < 68 * k + 68) → pb_I g 223 j = pb_I g1 223 j) ∧ (∀ j, ¬ (s = 1 ∧ 161 * k ≤ j ∧ j < 161 * k + 161) → pb_I g 224 j = pb_I g1 224 j) ∧ (∀ j, ¬ (s = 2 ∧ 25 * k ≤ j ∧ j < 25 * k + 25) → pb_I g 225 j = pb_I g1 225 j) ∧ pb_I g 222 s = nI m ∧ (s = 0 → ma_T g k D.1) ∧ (s = 1 → ma_Ly g 224 (161 * k) 4 D.2.2.1) ∧ (s = 2 → ma_Ly g 225 (25 * k) 3 D.2.2.2) := by
  have cs : (nI s).toNatClampNeg = s := nI_clamp (by omega)
  obtain ⟨g2, e2⟩ : ∃ g, g = pb_pI g1 222 s (nI m) := ⟨_, rfl⟩
  have H2 : ma_H g2 := by rw [e2]; exact H
  have o2 : ∀ o, o ≠ 222 → pb_I g2 o = pb_I g1 o := fun o q => by rw [e2, ma_I_pI, if_neg q]
  have s2 : ∀ j, ¬ j = s → pb_I g2 222 j = pb_I g1 222 j := fun j q => by rw [e2, ma_Ik, if_pos rfl, if_neg q]
  have m2 : pb_I g2 222 s = nI m := by rw [e2, ma_Ik, if_pos rfl, if_pos rfl]
  have f2 : ma_fr [222, 223, 224, 225] [] g1 g2 := by rw [e2]; exact ma_fr_pI (ma_fr_r _ _ _) (.inl (by decide)) _
  have i1 := mi_217 H
  unfold f_195_118
  rw [if_pos (mx_222 H (show s < 12 by omega)), ab, cs, ← e2]
  have : s = 0 ∨ s = 1 ∨ s = 2 := by omega
  rcases this with z | z | z
  · subst z
    obtain ⟨n0, n1, n2, n3, n4, n5, n6, n7⟩ := (Nn.1 rfl).1
    obtain ⟨g, a1, a2, a3, a4⟩ := m_194 (N := N) (h := g2) (o := 223) (w := 68) (k := k) (cap := 544) H2 (fun g Hg j hj => mx_223 Hg hj) (by decide) (by decide) (by omega) (by decide) hN
    have a1 : f_194 N g2 217 223 68 (nI k) = some g := a1
    have w : ∀ o, o ≠ 223 → pb_I g o = pb_I g2 o := fun o q => ma_fr_o a2 (by simp; omega) (by simp)
    have c : ∀ i, i < 68 → pb_I g 223 (68 * k + i) = pb_I g1 226 i := fun i hi => by rw [a3 i hi, o2 226 (by decide)]
    rw [if_neg (not_not_intro (show nI 0 = 0 from rfl)), if_pos i1, mr_217_6 H, Option.bind_some, a1, Option.bind_some]
    refine ⟨g, rfl, ma_fr_t f2 (ma_fr_w a2 (by decide) (by decide)), fun j q => by rw [w _ (by decide)]; exact s2 j q, fun j q => by rw [a4 j (by omega), o2 _ (by decide)], fun j q => by rw [w _ (by decide), o2 _ (by decide)], fun j q => by rw [w _ (by decide), o2 _ (by decide)], by rw [w _ (by decide)]; exact m2, fun _ => ⟨?_, ?_, fun j hj => ?_, fun j hj => ?_, fun j hj => ?_, fun j hj => ?_, fun j hj => ?_, fun j hj => ?_⟩, fun q => absurd q (by decide), fun q => absurd q (by decide)⟩
    · rw [c _ (by omega)]; exact n0
    · rw [c _ (by omega)]; exact n1
    · rw [c _ (by omega)]; exact n2 j hj
    · rw [c _ (by omega)]; exact n3 j hj
    · rw [c _ (by omega)]; exact n4 j hj
    · rw [c _ (by omega)]; exact n5 j hj
    · rw [c _ (by omega)]; exact n6 j hj
    · rw [c _ (by omega)]; exact n7 j hj
  · subst z
    have L := Nn.2.1 rfl
    have hY := GD.2.2.2.2.2.2.2.1.1
    obtain ⟨g, a1, a2, a3, a4⟩ := m_194 (N := N) (h := g2) (o := 224) (w := 161) (k := k) (cap := 1288) H2 (fun g Hg j hj => mx_224 Hg hj) (by decide) (by decide) (by omega) (by decide) hN
    have a1 : f_194 N g2 217 224 161 (nI k) = some g := a1
    have w : ∀ o, o ≠ 224 → pb_I g o = pb_I g2 o := fun o q => ma_fr_o a2 (by simp; omega) (by simp)
    have c : ∀ i, i < 161 → pb_I g 224 (161 * k + i) = pb_I g1 226 i := fun i hi => by rw [a3 i hi, o2 226 (by decide)]
    rw [if_pos (show ¬ nI 1 = 0 by decide), if_neg (not_not_intro (show nI 1 = 1 from rfl)), if_pos i1, mr_217_7 H, Option.bind_some, a1, Option.bind_some]
    refine ⟨g, rfl, ma_fr_t f2 (ma_fr_w a2 (by decide) (by decide)), fun j q => by rw [w _ (by decide)]; exact s2 j q, fun j q => by rw [w _ (by decide), o2 _ (by decide)], fun j q => by rw [a4 j (by omega), o2 _ (by decide)], fun j q => by rw [w _ (by decide), o2 _ (by decide)], by rw [w _ (by decide)]; exact m2, fun q => absurd q (by decide), fun _ => ⟨?_, fun j i hj hi => ?_⟩, fun q => absurd q (by decide)⟩
    · have := c 0 (by decide)
      rw [Nat.add_zero] at this
      rw [this]; exact L.1
    · have := c (1 + 4 * j + i) (by omega)
      rw [show 161 * k + 1 + 4 * j + i = 161 * k + (1 + 4 * j + i) by omega, this]
      have l := L.2 j i hj hi
      rw [Nat.zero_add] at l
      exact l
  · subst z
    have L := Nn.2.2 rfl
    have hY := GD.2.2.2.2.2.2.2.2.1
    obtain ⟨g, a1, a2, a3, a4⟩ := m_194 (N := N) (h := g2) (o := 225) (w := 25) (k := k) (cap := 200) H2 (fun g Hg j hj => mx_225 Hg hj) (by decide) (by decide) (by omega) (by decide) hN
    have a1 : f_194 N g2 217 225 25 (nI k) = some g := a1
    have w : ∀ o, o ≠ 225 → pb_I g o = pb_I g2 o := fun o q => ma_fr_o a2 (by simp; omega) (by simp)
    have c : ∀ i, i < 25 → pb_I g 225 (25 * k + i) = pb_I g1 226 i := fun i hi => by rw [a3 i hi, o2 226 (by decide)]
    rw [if_pos (show ¬ nI 2 = 0 by decide), if_pos (show ¬ nI 2 = 1 by decide), if_pos i1, mr_217_8 H, Option.bind_some, a1, Option.bind_some]
    refine ⟨g, rfl, ma_fr_t f2 (ma_fr_w a2 (by decide) (by decide)), fun j q => by rw [w _ (by decide)]; exact s2 j q, fun j q => by rw [w _ (by decide), o2 _ (by decide)], fun j q => by rw [w _ (by decide), o2 _ (by decide)], fun j q => by rw [a4 j (by omega), o2 _ (by decide)], by rw [w _ (by decide)]; exact m2, fun q => absurd q (by decide), fun q => absurd q (by decide), fun _ => ⟨?_, fun j i hj hi => ?_⟩⟩
    · have := c 0 (by decide)
      rw [Nat.add_zero] at this
      rw [this]; exact L.1
    · have := c (1 + 3 * j + i) (by omega)
      rw [show 25 * k + 1 + 3 * j + i = 25 * k + (1 + 3 * j + i) by omega, this]
      have l := L.2 j i hj hi
      rw [Nat.zero_add] at l
      exact l
end

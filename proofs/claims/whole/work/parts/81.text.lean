/-! text: joined -/
def tx_8 (h : pb_HP) (n : Nat) : pb_HP := pb_pI (pb_pI (pb_pI (pb_pI (pb_pI h 217 0 0) 217 10 (nI n)) 219 0 0) 220 0 0) 221 0 (-1)
section
variable {h : pb_HP} {N s k m n : Nat} {X : ma_X} {D : tx_T}
theorem tx_8_o (h : pb_HP) (n o : Nat) (q : o ≠ 217 ∧ o ≠ 219 ∧ o ≠ 220 ∧ o ≠ 221) : pb_I (tx_8 h n) o = pb_I h o := by
  unfold tx_8
  rw [ma_I_pI, if_neg q.2.2.2, ma_I_pI, if_neg q.2.2.1, ma_I_pI, if_neg q.2.1, ma_I_pI, if_neg q.1, ma_I_pI, if_neg q.1]
theorem tx_8_9 (h : pb_HP) (n j : Nat) : pb_I (tx_8 h n) 219 j = if j = 0 then 0 else pb_I h 219 j := by
  unfold tx_8
  rw [ma_Ik, if_neg (by decide), ma_Ik, if_neg (by decide), ma_Ik, if_pos rfl]
  by_cases c : j = 0
  · rw [if_pos c, if_pos c]
  · rw [if_neg c, if_neg c, ma_Ik, if_neg (by decide), ma_Ik, if_neg (by decide)]
theorem tx_8_0 (h : pb_HP) (n j : Nat) : pb_I (tx_8 h n) 220 j = if j = 0 then 0 else pb_I h 220 j := by
  unfold tx_8
  rw [ma_Ik, if_neg (by decide), ma_Ik, if_pos rfl]
  by_cases c : j = 0
  · rw [if_pos c, if_pos c]
  · rw [if_neg c, if_neg c, ma_Ik, if_neg (by decide), ma_Ik, if_neg (by decide), ma_Ik, if_neg (by decide)]
theorem tx_8_1 (h : pb_HP) (n j : Nat) : pb_I (tx_8 h n) 221 j = if j = 0 then -1 else pb_I h 221 j := by
  unfold tx_8
  rw [ma_Ik, if_pos rfl]
  by_cases c : j = 0
  · rw [if_pos c, if_pos c]
  · rw [if_neg c, if_neg c, ma_Ik, if_neg (by decide), ma_Ik, if_neg (by decide), ma_Ik, if_neg (by decide), ma_Ik, if_neg (by decide)]
theorem tx_8_K : tx_K h (tx_8 h n) False s k m D :=
  ⟨tx_8_o h n 218 (by decide), fun j hj => ⟨by rw [tx_8_9, if_neg hj], by rw [tx_8_0, if_neg hj], by rw [tx_8_1, if_neg hj]⟩, fun j _ => by rw [tx_8_o h n 222 (by decide)], fun j _ => by rw [tx_8_o h n 223 (by decide)], fun j _ => by rw [tx_8_o h n 224 (by decide)], fun j _ => by rw [tx_8_o h n 225 (by decide)], fun q => q.elim⟩
theorem m_195t (H : ma_H h) (e : pb_I h 219 0 = nI n) (x y : Int32) : f_195 N h 217 x y = (f_168 x 0 2).bind fun r16 => (if r16 = 0 then (some (((-2), tx_8 h n))) else (if ¬ y = ((-1)) then ((f_175 (tx_8 h n) 217 x y).bind fun r17 => (if ¬ r17 = 0 then (f_195_75 N (tx_8 h n) 217 x y) else (some (((-2), tx_8 h n))))) else (if pb_ar h 222 12 x then (if ¬ (pb_I (tx_8 h n) 222 x.toNatClampNeg) = 2 then (f_195_75 N (tx_8 h n) 217 x y) else (some (((-2), tx_8 h n)))) else none))) := by
  have x9 : pb_ar h 219 12 0 := mx_219 H (j := 0) (by decide)
  have x0 : pb_ar h 220 12 0 := mx_220 H (j := 0) (by decide)
  have x1 : pb_ar h 221 12 0 := mx_221 H (j := 0) (by decide)
  have k : pb_I (pb_pI h 217 0 0) 219 0 = nI n := by rw [ma_Ik, if_neg (by decide)]; exact e
  unfold f_195 tx_8
  rw [if_pos (mi_217 H), mr_217_2 H, Option.bind_some, if_pos x9, mr_217_3 H, Option.bind_some, if_pos x0, mr_217_4 H, Option.bind_some, if_pos x1]
  simp only [tx_z0, k, pb_hb, mr_217_5 H, Option.bind_some]
theorem m_195g (H : ma_H h) (G : ma_GX X) (M : ma_MX h 0 X) (hs : s < 3) (hk : k < 2) {y : Int32} (hy : (y = -1 ∧ k = X.2.2.2.1 s ∧ m = X.2.2.2.1 s + 1) ∨ (y = nI k ∧ m = X.2.2.2.1 s)) (hN : 3000 < N) : ∃ g, f_195_75 N (tx_8 h X.2.2.2.2.2.1) 217 (nI s) y = some (if (tx_rd X s).1.1 = 0 then nI k else -1, g) ∧ g.1 = h.1 ∧ pb_R g = pb_R h ∧ (∀ o, o < 217 ∨ 227 < o → pb_I g o = pb_I h o) ∧ tx_K h g ((tx_rd X s).1.1 = 0) s k m (tx_rd X s).2 ∧ pb_I g 219 0 = nI 0 ∧ pb_I g 220 0 = nI (tx_rd X s).1.1 ∧ pb_I g 221 0 = mI (tx_rd X s).1.2 := by
  have rb := tx_rd_b G hs
  have hn := G.2.2.2.2.2.1
  have mm := G.2.2.2.1 s hs
  obtain ⟨h8, e8⟩ : ∃ g, g = tx_8 h X.2.2.2.2.2.1 := ⟨_, rfl⟩
  rw [← e8]
  have H8 : ma_H h8 := by rw [e8]; exact H
  have o8 : ∀ o, (o ≠ 217 ∧ o ≠ 219 ∧ o ≠ 220 ∧ o ≠ 221) → pb_I h8 o = pb_I h o := fun o q => by rw [e8]; exact tx_8_o h _ o q
  have E : tx_E h8 X.2.2.2.2.1 X.2.2.2.2.2.1 := by
    refine ⟨H8, ?_, fun j hj => ?_⟩
    · rw [e8]; unfold tx_8
      rw [ma_Ik, if_neg (by decide), ma_Ik, if_neg (by decide), ma_Ik, if_neg (by decide), ma_Ik, if_pos rfl, if_pos rfl]
    · rw [o8 218 (by decide)]
      have := M.2.2.2.2.1 j (by omega)
      rw [Nat.mul_zero, Nat.zero_add] at this
      exact this
  obtain ⟨g1, a1, a2, a3, a4, a5⟩ := m_193 (N := N) (s := s) E (fun j hj => G.2.2.2.2.1 j (by omega)) hn hs hN
  have a1 : f_193 N h8 217 (nI s) = some (if (tx_rd X s).1.1 = 0 then 1 else 0, g1) := a1
  have a3 : pb_I g1 220 0 = nI (tx_rd X s).1.1 := a3
  have a4 : pb_I g1 221 0 = mI (tx_rd X s).1.2 := a4
  have a5 : (tx_rd X s).1.1 = 0 → tx_N g1 s (tx_rd X s).2 := a5
  have H1 := ma_H_fr H8 a2
  have k1 : ∀ o, o ∉ [226] → o ∉ tx_fm.map Prod.fst → pb_I g1 o = pb_I h8 o := fun o p q => ma_fr_o a2 p q
  have k22 : pb_I g1 222 s = nI (X.2.2.2.1 s) := by
    rw [k1 222 (by decide) (by decide), o8 222 (by decide)]
    have := M.2.2.2.1 s hs
    rw [Nat.mul_zero, Nat.zero_add] at this
    exact this
  have c9 : ∀ j, pb_I g1 219 j = if j = 0 then 0 else pb_I h 219 j := fun j => by rw [k1 219 (by decide) (by decide), e8]; exact tx_8_9 h _ j
  have c0 : ∀ j, j ≠ 0 → pb_I g1 220 j = pb_I h 220 j := fun j hj => by rw [a2.2.2 220 j (by decide) (by simp [hj]), e8, tx_8_0, if_neg hj]
  have c1 : ∀ j, j ≠ 0 → pb_I g1 221 j = pb_I h 221 j := fun j hj => by rw [a2.2.2 221 j (by decide) (by simp [hj]), e8, tx_8_1, if_neg hj]
  have c2 : pb_I g1 222 = pb_I h 222 := by rw [k1 222 (by decide) (by decide), o8 222 (by decide)]
  have c3 : pb_I g1 223 = pb_I h 223 := by rw [k1 223 (by decide) (by decide), o8 223 (by decide)]
  have c4 : pb_I g1 224 = pb_I h 224 := by rw [k1 224 (by decide) (by decide), o8 224 (by decide)]
  have c5 : pb_I g1 225 = pb_I h 225 := by rw [k1 225 (by decide) (by decide), o8 225 (by decide)]
  have c8 : pb_I g1 218 = pb_I h 218 := by rw [k1 218 (by decide) (by decide), o8 218 (by decide)]
  have cx : ∀ o, o < 217 ∨ 227 < o → pb_I g1 o = pb_I h o := fun o q => by rw [k1 o (by simp; omega) (by simp; omega), o8 o (by omega)]
  have cs : (nI s).toNatClampNeg = s := nI_clamp (by omega)
  have q1 : g1.1 = h.1 := a2.1.trans (by rw [e8]; rfl)
  have q2 : pb_R g1 = pb_R h := a2.2.1.trans (by rw [e8]; rfl)
  unfold f_195_75
  rw [if_pos (mi_217 H8), a1, Option.bind_some]
  dsimp only
  by_cases c : (tx_rd X s).1.1 = 0
  · rw [if_pos c, if_pos c, if_pos (by decide)]
    have fin : f_195_100 N g1 217 (nI s) y (nI k) = f_195_118 N g1 217 (nI s) (nI k) (if y = -1 then 1 else 0) (nI (X.2.2.2.1 s)) (nI s) 222 := by
      unfold f_195_100
      rw [if_pos (mi_217 H1), mr_217_5 H1, Option.bind_some, if_pos (mx_222 H1 (show s < 12 by omega)), cs, k22]
      by_cases z : y = -1
      · rw [if_neg (not_not_intro z), if_pos z]
      · rw [if_pos z, if_neg z]
    have st : (if ¬ y = -1 then f_195_100 N g1 217 (nI s) y y else (if pb_is g1 217 11 then ((pb_R g1 217 5).bind fun q41 => (if pb_ar g1 q41 12 (nI s) then (f_195_100 N g1 217 (nI s) y (pb_I g1 q41 (nI s).toNatClampNeg)) else none)) else none)) = f_195_118 N g1 217 (nI s) (nI k) (if y = -1 then 1 else 0) (nI (X.2.2.2.1 s)) (nI s) 222 := by
      rw [← fin]
      rcases hy with ⟨z, zk, _⟩ | ⟨z, _⟩
      · rw [if_neg (not_not_intro z), if_pos (mi_217 H1), mr_217_5 H1, Option.bind_some, if_pos (mx_222 H1 (show s < 12 by omega)), cs, k22, zk]
      · rw [if_pos (fun q => (mF _ (show k < 2 ^ 31 by omega)).mp (z.symm.trans q))]
        rw [← z]
    rw [st]
    have ab : nI (X.2.2.2.1 s) + (if y = -1 then (1 : Int32) else 0) = nI m := by
      rcases hy with ⟨z, _, zm⟩ | ⟨z, zm⟩
      · rw [if_pos z, nI_1, zm]
      · rw [if_neg (fun q => (mF _ (show k < 2 ^ 31 by omega)).mp (z.symm.trans q)), lH0, zm]
    obtain ⟨g, b1, b2, b3, b4, b5, b6, b7⟩ := m_195k (N := N) (s := s) (k := k) (m := m) H1 (a5 c) rb.2.1 hs hk ab hN
    refine ⟨g, b1, b2.1.trans q1, b2.2.1.trans q2, fun o q => by rw [ma_fr_o b2 (by simp; omega) (by simp)]; exact cx o q, ⟨?_, fun j hj => ⟨?_, ?_, ?_⟩, fun j q => ?_, fun j q => ?_, fun j q => ?_, fun j q => ?_, fun _ => b7⟩, ?_, ?_, ?_⟩
    · rw [ma_fr_o b2 (by decide) (by decide)]; exact c8
    · rw [ma_fr_o b2 (by decide) (by decide), c9, if_neg hj]
    · rw [ma_fr_o b2 (by decide) (by decide)]; exact c0 j hj
    · rw [ma_fr_o b2 (by decide) (by decide)]; exact c1 j hj
    · rw [b3 j (fun z => q ⟨c, z⟩), c2]
    · rw [b4 j (fun z => q ⟨c, z⟩), c3]
    · rw [b5 j (fun z => q ⟨c, z⟩), c4]
    · rw [b6 j (fun z => q ⟨c, z⟩), c5]
    · rw [ma_fr_o b2 (by decide) (by decide), c9, if_pos rfl]; rfl
    · rw [ma_fr_o b2 (by decide) (by decide)]; exact a3
    · rw [ma_fr_o b2 (by decide) (by decide)]; exact a4
  · rw [if_neg c, if_neg c, if_neg (by decide)]
    exact ⟨g1, rfl, q1, q2, cx, ⟨c8, fun j hj => ⟨by rw [c9, if_neg hj], c0 j hj, c1 j hj⟩, fun j _ => by rw [c2], fun j _ => by rw [c3], fun j _ => by rw [c4], fun j _ => by rw [c5], fun q => absurd q c⟩, by rw [c9, if_pos rfl]; rfl, a3, a4⟩
theorem tx_INV {g : pb_HP} {X' : ma_X} (I : ma_INV h) (Hg : ma_H g) (kc : ∀ o, (41 ≤ o ∧ o ≤ 162) ∨ o = 214 ∨ o = 240 → pb_I g o = pb_I h o) (im : ∀ i X, 1 ≤ i → ma_GX X → ma_MX h i X → ma_MX g i X) (G' : ma_GX X') (C' : ma_CX g 1 X') (M' : ma_MX g 0 X') : ma_INV g := by
  obtain ⟨H, _, iv, mk⟩ := I
  refine ⟨Hg, ⟨X', G', C', M'⟩, fun i hi => ?_, fun n hn => by rw [kc 214 (by omega)]; exact mk n hn⟩
  obtain ⟨b, X2, e1, e2, G2, C2, M2⟩ := iv i hi
  exact ⟨b, X2, by rw [kc 162 (by omega)]; exact e1, by rw [kc 240 (by omega)]; exact e2, G2, ma_CX_e C2 (fun o a b => kc o (by omega)), fun hb => im (i + 1) X2 (by omega) G2 (M2 hb)⟩
theorem st_text (I : ma_INV h) (hN : 3000 < N) (x y : Int32) : ma_Z (f_126 N h 0 x y) (fun g => f_195 N g 217 x y) := by
  have II := I
  obtain ⟨H, ⟨X, G, C, M⟩, iv, mk⟩ := I
  have hn := G.2.2.2.2.2.1
  obtain ⟨h1, e1⟩ : ∃ g, g = pb_pI (pb_pI (pb_pI h 1 5 0) 1 6 0) 1 7 (-1) := ⟨_, rfl⟩
  have H1 : ma_H h1 := by rw [e1]; exact H
  have o1 : ∀ o, o ≠ 1 → pb_I h1 o = pb_I h o := fun o q => by rw [e1, ma_I_pI, if_neg q, ma_I_pI, if_neg q, ma_I_pI, if_neg q]
  have G1 : ma_GX (tx_Z X 0 (0, 0)) := tx_Z_G G (Nat.zero_le _) ⟨Nat.zero_le _, Nat.zero_le _⟩
  have C1 : ma_CX h1 1 (tx_Z X 0 (0, 0)) := ma_CX_t C (fun o a b => o1 o (by omega)) (by rw [e1, ma_Ik, if_pos rfl, if_neg (by decide), ma_Ik, if_pos rfl, if_neg (by decide), ma_Ik, if_pos rfl, if_pos rfl]; rfl) (by rw [e1, ma_Ik, if_pos rfl, if_neg (by decide), ma_Ik, if_pos rfl, if_pos rfl]; rfl) (by rw [e1, ma_Ik, if_pos rfl, if_pos rfl]; rfl)
  have M1 : ma_MX h1 0 X := ma_MX_e M (fun o a b => o1 o (by omega))
  -- there is none such
  have none : f_102 h1 1 x y = some (-1) → (∀ g, ma_H g → ma_MX g 0 X → f_195 N g 217 x y = some (-2, tx_8 g X.2.2.2.2.2.1)) → ma_Z (f_126 N h 0 x y) (fun g => f_195 N g 217 x y) := fun u1 u2 => by
    refine ⟨-2, h1, tx_8 h1 X.2.2.2.2.2.1, ?_, u2 h1 H1 M1, ?_⟩
    · unfold f_126
      rw [if_pos (mi_0 H), mr_0_0 H, Option.bind_some, if_pos (mi_1 H), ← e1, u1, Option.bind_some, if_neg (not_not_intro rfl)]
    · have Kk : tx_K h1 (tx_8 h1 X.2.2.2.2.2.1) False 0 0 0 tx_0 := tx_8_K
      refine tx_INV (X' := tx_Z X 0 (0, 0)) II H1 (fun o q => by rw [tx_8_o h1 _ o (by omega), o1 o (by omega)]) (fun i X2 hi G2 M2 => tx_K_i (by decide) (by decide) Kk hi G2 (ma_MX_e M2 (fun o a b => o1 o (by omega)))) G1 (ma_CX_e C1 (fun o a b => tx_8_o h1 _ o (by omega))) (tx_K_0n Kk (fun q => q) M1 ?_ ?_ ?_)
      · rw [tx_8_9, if_pos rfl]; rfl
      · rw [tx_8_0, if_pos rfl]; rfl
      · rw [tx_8_1, if_pos rfl]; rfl
  have m9 : ∀ g, ma_MX g 0 X → pb_I g 219 0 = nI X.2.2.2.2.2.1 := fun g Mg => Mg.2.2.2.2.2.1
  cases qa : ma_at x 3 with
  | false =>
    refine none ?_ (fun g Hg Mg => ?_)
    · unfold f_102
      rcases ma_at_no qa with w | w
      · rw [if_pos w]
      · have := ma_x3 w
        rw [if_neg this.1, if_neg this.2]
    · have r := m_168 x (n := 3) (by decide)
      rw [qa] at r
      have r : f_168 x 0 2 = some 0 := r
      rw [m_195t Hg (m9 g Mg), r, Option.bind_some, if_pos rfl]
  | true =>
    obtain ⟨s, hs, rfl⟩ := ma_at_ex (by decide) qa
    have mm := G.2.2.2.1 s hs
    have cs : (nI s).toNatClampNeg = s := nI_clamp (by omega)
    have r : f_168 (nI s) 0 2 = some 1 := by
      have := m_168 (nI s) (n := 3) (by decide)
      rw [qa] at this
      exact this
    have n0 : ¬ nI s < 0 := nI_pos (by omega)
    have n3 : nI s < 3 := (lD3 (show s < 2 ^ 31 by omega)).mpr hs
    have c39 : pb_I h1 39 s = nI (X.2.2.2.1 s) := C1.2.2.2.1 s hs
    have c22 : ∀ g, ma_MX g 0 X → pb_I (tx_8 g X.2.2.2.2.2.1) 222 s = nI (X.2.2.2.1 s) := fun g Mg => by
      rw [tx_8_o g _ 222 (by decide)]
      have := Mg.2.2.2.1 s hs
      rw [Nat.mul_zero, Nat.zero_add] at this
      exact this
    have u102 : f_102 h1 1 (nI s) y = if ¬ y = -1 then (if ma_at y (X.2.2.2.1 s) then some y else some (-1)) else (if 2 ≤ X.2.2.2.1 s then some (-1) else some (nI (X.2.2.2.1 s))) := by
      unfold f_102
      rw [if_neg n0, if_pos n3]
      by_cases z : y = -1
      · rw [if_neg (not_not_intro z), if_neg (not_not_intro z), if_pos (mi_1 H1), mr_1_3 H1, Option.bind_some, if_pos (mx_39 H1 hs), cs, c39]
        by_cases w : 2 ≤ X.2.2.2.1 s
        · rw [if_pos w, if_pos ((lA2 (show X.2.2.2.1 s < 2 ^ 31 by omega)).mpr w)]
        · rw [if_neg w, if_neg (fun q => w ((lA2 (show X.2.2.2.1 s < 2 ^ 31 by omega)).mp q))]
      · rw [if_pos z, if_pos z, if_pos (mi_1 H1), c_103 H1 G1 C1 hs y, Option.bind_some]
        show (if (if ma_at y (X.2.2.2.1 s) then (1 : Int32) else 0) = 0 then some (-1) else some y) = _
        cases ma_at y (X.2.2.2.1 s) <;> rfl
    have u195 : ∀ g, ma_H g → ma_MX g 0 X → f_195 N g 217 (nI s) y = if ¬ y = -1 then (if ma_at y (X.2.2.2.1 s) then f_195_75 N (tx_8 g X.2.2.2.2.2.1) 217 (nI s) y else some (-2, tx_8 g X.2.2.2.2.2.1)) else (if 2 ≤ X.2.2.2.1 s then some (-2, tx_8 g X.2.2.2.2.2.1) else f_195_75 N (tx_8 g X.2.2.2.2.2.1) 217 (nI s) y) := fun g Hg Mg => by
      have H8 : ma_H (tx_8 g X.2.2.2.2.2.1) := Hg
      rw [m_195t Hg (m9 g Mg), r, Option.bind_some, if_neg (by decide)]
      by_cases z : y = -1
      · rw [if_neg (not_not_intro z), if_neg (not_not_intro z), if_pos (mx_222 Hg (show s < 12 by omega)), cs, c22 g Mg]
        by_cases w : 2 ≤ X.2.2.2.1 s
        · rw [if_pos w, if_neg (not_not_intro ((lE2 (show X.2.2.2.1 s < 2 ^ 31 by omega)).mpr (by omega)))]
        · rw [if_neg w, if_pos (fun q => w (by have := (lE2 (show X.2.2.2.1 s < 2 ^ 31 by omega)).mp q; omega))]
      · rw [if_pos z, if_pos z, m_175 H8 (s := s) (n := X.2.2.2.1 s) (by omega) (by omega) (c22 g Mg) y, Option.bind_some]
        cases ma_at y (X.2.2.2.1 s) <;> rfl
    -- there is a place
    have place : ∀ k m, k < 2 → ((y = -1 ∧ k = X.2.2.2.1 s ∧ m = X.2.2.2.1 s + 1) ∨ (y = nI k ∧ m = X.2.2.2.1 s)) → m = tx_mx (X.2.2.2.1 s) (k + 1) → m ≤ 2 → f_102 h1 1 (nI s) y = some (nI k) → (∀ g, ma_H g → ma_MX g 0 X → f_195 N g 217 (nI s) y = f_195_75 N (tx_8 g X.2.2.2.2.2.1) 217 (nI s) y) → ma_Z (f_126 N h 0 (nI s) y) (fun g => f_195 N g 217 (nI s) y) := fun k m hk hy em hm u1 u2 => by
      have rb := tx_rd_b G hs
      obtain ⟨g, a1, Hg, w, Cg⟩ := c_126 (N := N) (s := s) (k := k) H G C hs hk (by rw [← e1]; exact u1) hN
      have Mg : ma_MX g 0 X := ma_MX_e M (fun o a b => w o (by omega))
      obtain ⟨g2, b1, b2, b3, b4, b5, b6, b7, b8⟩ := m_195g (N := N) (s := s) (k := k) (m := m) Hg G Mg hs hk hy hN
      refine ⟨_, g, g2, a1, (u2 g Hg Mg).trans b1, ?_⟩
      have H2 : ma_H g2 := ma_Hx Hg b2 b3
      have kc : ∀ o, (41 ≤ o ∧ o ≤ 162) ∨ o = 214 ∨ o = 240 → pb_I g2 o = pb_I h o := fun o q => by rw [b4 o (by omega), w o (by omega)]
      have im : ∀ i X2, 1 ≤ i → ma_GX X2 → ma_MX h i X2 → ma_MX g2 i X2 := fun i X2 hi G2 M2 => tx_K_i hk hs b5 hi G2 (ma_MX_e M2 (fun o a b => w o (by omega)))
      have GZ : ma_GX (tx_Z X 0 (tx_rd X s).1) := tx_Z_G G (Nat.zero_le _) rb.1
      by_cases c : (tx_rd X s).1.1 = 0
      · rw [if_pos c, ← em] at Cg
        exact tx_INV II H2 kc im (tx_Y_G GZ rb.2.1 (rb.2.2.2 c) hm) (ma_CX_e Cg (fun o a b => b4 o (by omega))) (tx_K_0y G hs hk b5 c Mg b6 b7 b8)
      · rw [if_neg c] at Cg
        exact tx_INV II H2 kc im GZ (ma_CX_e Cg (fun o a b => b4 o (by omega))) (tx_K_0n b5 c Mg b6 b7 b8)
    by_cases z : y = -1
    · rw [if_neg (not_not_intro z)] at u102
      by_cases w : 2 ≤ X.2.2.2.1 s
      · rw [if_pos w] at u102
        exact none u102 (fun g Hg Mg => by rw [u195 g Hg Mg, if_neg (not_not_intro z), if_pos w])
      · rw [if_neg w] at u102
        exact place (X.2.2.2.1 s) (X.2.2.2.1 s + 1) (by omega) (.inl ⟨z, rfl, rfl⟩) (by unfold tx_mx; rw [if_pos (by omega)]) (by omega) u102 (fun g Hg Mg => by rw [u195 g Hg Mg, if_neg (not_not_intro z), if_neg w])
    · rw [if_pos z] at u102
      cases q : ma_at y (X.2.2.2.1 s) with
      | false =>
        rw [q, if_neg (by decide)] at u102
        exact none u102 (fun g Hg Mg => by rw [u195 g Hg Mg, if_pos z, q, if_neg (by decide)])
      | true =>
        rw [q, if_pos rfl] at u102
        obtain ⟨k, hk, rfl⟩ := ma_at_ex (by omega) q
        exact place k (X.2.2.2.1 s) (by omega) (.inr ⟨rfl, rfl⟩) (by unfold tx_mx; rw [if_neg (by omega)]) (by omega) u102 (fun g Hg Mg => by rw [u195 g Hg Mg, if_pos z, q, if_pos rfl])
end

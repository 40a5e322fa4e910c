/-! feed -/
theorem ma_ext8 {a b : Int32} (h : ∀ i, i < 8 → a.toBitVec.getLsbD i = b.toBitVec.getLsbD i) : Int32.toInt8 a = Int32.toInt8 b := by
  apply Int8.toBitVec_inj.mp
  rw [Int32.toBitVec_toInt8, Int32.toBitVec_toInt8]
  apply BitVec.eq_of_getLsbD_eq
  intro i hi
  rw [BitVec.getLsbD_signExtend, BitVec.getLsbD_signExtend, if_pos (show i < 32 by omega), if_pos (show i < 32 by omega), h i hi]
theorem ma_by (v : Int32) (s : Int32) {n : Nat} (hn : n ≤ 24) (e1 : ((s &&& 31).toBitVec.smod 32).toNat = n) (e2 : ((Int32.toUInt32 s &&& Int32.toUInt32 31).toBitVec % 32).toNat = n) : Int32.toInt8 ((v.toUInt32 >>> (Int32.toUInt32 s &&& Int32.toUInt32 31)).toInt32) = Int32.toInt8 (v >>> (s &&& 31)) := by
  apply ma_ext8
  intro i hi
  have a1 : (v >>> (s &&& 31)).toBitVec = v.toBitVec.sshiftRight n := by
    rw [Int32.toBitVec_shiftRight]
    show v.toBitVec.sshiftRight ((s &&& 31).toBitVec.smod 32).toNat = _
    rw [e1]
  have a2 : ((v.toUInt32 >>> (Int32.toUInt32 s &&& Int32.toUInt32 31)).toInt32).toBitVec = v.toBitVec >>> n := by
    show (v.toUInt32 >>> (Int32.toUInt32 s &&& Int32.toUInt32 31)).toBitVec = _
    rw [UInt32.toBitVec_shiftRight]
    show v.toBitVec >>> ((Int32.toUInt32 s &&& Int32.toUInt32 31).toBitVec % 32).toNat = _
    rw [e2]
  rw [a1, a2, BitVec.getLsbD_ushiftRight, BitVec.getLsbD_sshiftRight, if_pos (show n + i < 32 by omega)]
  simp
  omega
def sp_sf : Nat → Int32
  | 0 => 24
  | 1 => 16
  | 2 => 8
  | 3 => 0
  | _ => -8
def sp_by (v : Int32) (j : Nat) : Int32 := (Int32.toInt8 ((Int32.toInt8 (v >>> (sp_sf j &&& 31))).toInt32)).toInt32
theorem sp_by_c (v : Int32) {j : Nat} (hj : j < 4) : (Int32.toInt8 ((Int32.toInt8 ((v.toUInt32 >>> (Int32.toUInt32 (sp_sf j) &&& Int32.toUInt32 31)).toInt32)).toInt32)).toInt32 = sp_by v j := by
  unfold sp_by
  have : j = 0 ∨ j = 1 ∨ j = 2 ∨ j = 3 := by omega
  rcases this with rfl | rfl | rfl | rfl
  · rw [ma_by v (sp_sf 0) (n := 24) (by decide) (by decide) (by decide)]
  · rw [ma_by v (sp_sf 1) (n := 16) (by decide) (by decide) (by decide)]
  · rw [ma_by v (sp_sf 2) (n := 8) (by decide) (by decide) (by decide)]
  · rw [ma_by v (sp_sf 3) (n := 0) (by decide) (by decide) (by decide)]
theorem sp_by_b (v : Int32) (j : Nat) : (sp_by v j).toInt8.toInt32 = sp_by v j := by
  unfold sp_by
  rw [Int8.toInt8_toInt32]
theorem sp_sf_s {j : Nat} (hj : j < 4) : ¬ sp_sf j < 0 ∧ sp_sf j + (-8) = sp_sf (j + 1) := by
  have : ∀ j : Fin 4, ¬ sp_sf j.val < 0 ∧ sp_sf j.val + (-8) = sp_sf (j.val + 1) := by decide
  exact this ⟨j, hj⟩
def sp_wj (B : Nat → Int32) (n : Nat) (v : Int32) (j i : Nat) : Int32 := if n ≤ i ∧ i < n + j then sp_by v (i - n) else B i
def ma_ta (h : pb_HP) (B : Nat → Int32) (n : Nat) : Prop := pb_I h 1 5 = nI n ∧ ∀ j, j < 600 → pb_I h 40 j = B j
def ma_tb (h : pb_HP) (B : Nat → Int32) (n : Nat) : Prop := pb_I h 219 0 = nI n ∧ ∀ j, j < 600 → pb_I h 218 j = B j
theorem sp_wj_s (B : Nat → Int32) (n : Nat) (v : Int32) (j i : Nat) : sp_wj B n v (j + 1) i = if i = n + j then sp_by v j else sp_wj B n v j i := by
  unfold sp_wj
  by_cases e : i = n + j
  · rw [if_pos e, if_pos (by omega), e, Nat.add_sub_cancel_left]
  · rw [if_neg e]
    by_cases c : n ≤ i ∧ i < n + j
    · rw [if_pos c, if_pos (by omega)]
    · rw [if_neg c, if_neg (by omega)]
theorem sp_wj_0 (B : Nat → Int32) (n : Nat) (v : Int32) (i : Nat) : sp_wj B n v 0 i = B i := if_neg (by omega)
section
variable {h : pb_HP} {N n : Nat} {B : Nat → Int32} {v : Int32}
theorem c_100 (H : ma_H h) (t : ma_ta h B n) (hn : n + 4 ≤ 600) (hN : 3000 < N) : ∃ g, f_100 N h 1 v = some g ∧ ma_fr [40] [(1, 5)] h g ∧ ma_ta g (sp_wj B n v 4) (n + 4) := by
  have hl : ∃ e, pb_wl (f_100_3s N 1 v) N (24, h) = some e ∧ (ma_fr [40] [(1, 5)] h e ∧ ma_ta e (sp_wj B n v 4) (n + 4)) := by
    refine ma_lh (fun j s => s.1 = sp_sf j ∧ ma_fr [40] [(1, 5)] h s.2 ∧ ma_ta s.2 (sp_wj B n v j) (n + j)) _ 4 0 N _ (by omega) (by omega) ⟨rfl, ma_fr_r _ _ _, t.1, fun j hj => by rw [sp_wj_0]; exact t.2 j hj⟩ ?_ ?_
    · rintro j ⟨y, g⟩ _ hj ⟨hy, hf, hz⟩
      dsimp only at hy hf hz
      subst hy
      left
      have H2 := ma_H_fr H hf
      have sf := sp_sf_s hj
      have lt : ¬ (600 : Int32) ≤ nI (n + j) := (not_congr (lA600 (show n + j < 2 ^ 31 by omega))).mpr (by omega)
      have rd : ∀ x, pb_I (pb_pI g 40 (n + j) x) 1 5 = nI (n + j) := fun x => by rw [ma_Ik, if_neg (by decide)]; exact hz.1
      refine ⟨(sp_sf (j + 1), pb_pI (pb_pI g 40 (n + j) (sp_by v j)) 1 5 (nI (n + j + 1))), ?_, rfl, ma_fr_pI (ma_fr_pI hf (.inl (by decide)) _) (.inr (by decide)) _, ?_, fun i hi => ?_⟩
      · simp only [f_100_3s, if_neg sf.1, if_pos (mi_1 H2), hz.1, if_neg lt, mr_1_4 H2, Option.bind_some, if_pos (mx_40 H2 (show n + j < 600 by omega)), nI_clamp (show n + j < 2 ^ 31 by omega), sp_by_c v hj, rd, nI_1, sf.2, pb_hb]
      · show pb_I (pb_pI _ 1 5 _) 1 5 = _
        rw [ma_Ik, if_pos rfl, if_pos rfl]; rfl
      · show pb_I (pb_pI _ 1 5 _) 40 i = _
        rw [ma_Ik, if_neg (by decide), ma_Ik, if_pos rfl, sp_wj_s]
        by_cases e : i = n + j
        · rw [if_pos e, if_pos e]
        · rw [if_neg e, if_neg e]; exact hz.2 i hi
    · rintro ⟨y, g⟩ ⟨hy, hf, hz⟩
      dsimp only at hy hf hz
      subst hy
      refine ⟨g, ?_, hf, hz⟩
      simp only [f_100_3s, if_pos (show sp_sf 4 < 0 by decide)]
  obtain ⟨g, a1, a2⟩ := hl
  exact ⟨g, by simp only [f_100, a1, Option.bind_some], a2⟩
theorem m_177 (H : ma_H h) (t : ma_tb h B n) (hn : n + 4 ≤ 600) (hN : 3000 < N) : ∃ g, f_177 N h 217 v = some g ∧ ma_fr [218] [(219, 0)] h g ∧ (∀ k, 600 ≤ k → pb_I g 218 k = pb_I h 218 k) ∧ ma_tb g (sp_wj B n v 4) (n + 4) := by
  have z0 : (0 : Int32).toNatClampNeg = 0 := by decide
  have hl : ∃ e, pb_wl (f_177_3s N 217 v) N (24, h) = some e ∧ (ma_fr [218] [(219, 0)] h e ∧ (∀ k, 600 ≤ k → pb_I e 218 k = pb_I h 218 k) ∧ ma_tb e (sp_wj B n v 4) (n + 4)) := by
    refine ma_lh (fun j s => s.1 = sp_sf j ∧ ma_fr [218] [(219, 0)] h s.2 ∧ (∀ k, 600 ≤ k → pb_I s.2 218 k = pb_I h 218 k) ∧ ma_tb s.2 (sp_wj B n v j) (n + j)) _ 4 0 N _ (by omega) (by omega) ⟨rfl, ma_fr_r _ _ _, fun _ _ => rfl, t.1, fun j hj => by rw [sp_wj_0]; exact t.2 j hj⟩ ?_ ?_
    · rintro j ⟨y, g⟩ _ hj ⟨hy, hf, hk, hz⟩
      dsimp only at hy hf hk hz
      subst hy
      left
      have H2 := ma_H_fr H hf
      have sf := sp_sf_s hj
      have x0 : pb_ar g 219 12 0 := mx_219 H2 (j := 0) (by decide)
      have rd : ∀ x, pb_I (pb_pI g 218 (n + j) x) 219 0 = nI (n + j) := fun x => by rw [ma_Ik, if_neg (by decide)]; exact hz.1
      have by' : (Int32.toInt8 ((Int32.toInt8 (v >>> (sp_sf j &&& 31))).toInt32)).toInt32 = sp_by v j := rfl
      refine ⟨(sp_sf (j + 1), pb_pI (pb_pI g 218 (n + j) (sp_by v j)) 219 0 (nI (n + j + 1))), ?_, rfl, ma_fr_pI (ma_fr_pI hf (.inl (by decide)) _) (.inr (by decide)) _, fun k h6 => ?_, ?_, fun i hi => ?_⟩
      · simp only [f_177_3s, if_neg sf.1, if_pos (mi_217 H2), mr_217_1 H2, mr_217_2 H2, Option.bind_some, if_pos x0, z0, hz.1, if_pos (mx_218 H2 (show n + j < 2400 by omega)), nI_clamp (show n + j < 2 ^ 31 by omega), by', rd, nI_1, sf.2, pb_hb]
      · show pb_I (pb_pI _ 219 0 _) 218 k = _
        rw [ma_Ik, if_neg (by decide), ma_Ik, if_pos rfl, if_neg (by omega)]; exact hk k h6
      · show pb_I (pb_pI _ 219 0 _) 219 0 = _
        rw [ma_Ik, if_pos rfl, if_pos rfl]; rfl
      · show pb_I (pb_pI _ 219 0 _) 218 i = _
        rw [ma_Ik, if_neg (by decide), ma_Ik, if_pos rfl, sp_wj_s]
        by_cases e : i = n + j
        · rw [if_pos e, if_pos e]
        · rw [if_neg e, if_neg e]; exact hz.2 i hi
    · rintro ⟨y, g⟩ ⟨hy, hf, hk, hz⟩
      dsimp only at hy hf hk hz
      subst hy
      refine ⟨g, ?_, hf, hk, hz⟩
      simp only [f_177_3s, if_pos (show sp_sf 4 < 0 by decide)]
  obtain ⟨g, a1, a2⟩ := hl
  exact ⟨g, by simp only [f_177, a1, Option.bind_some], a2⟩
end

/-! image, again: the developers' copy -/
section
variable {h : pb_HP} {N l d cap nb : Nat} {Y : ma_Y}
theorem c_73 (H : ma_H h) (L : ma_L h l cap nb Y) (hY : Y.1 ≤ cap) (hcap : cap < 2 ^ 31) (hd : ma_lt d cap) (h5 : pb_I h d 5 = nI nb) (hx : l + 4 < d ∨ d + 4 < l) : ∃ g, f_73 h d l = some g ∧ ma_fr [d + 1, d + 2, d + 3, d + 4] [(d, 0)] h g ∧ ma_L g d cap nb Y := by
  have z0 : (0 : Int32).toNatClampNeg = 0 := by decide
  have Lc := L.1
  have l1 := Lc.1
  have d1 := hd.1
  have il : pb_is h l 4 := ma_is H.1 (by omega) Lc.2.2.1
  have id : pb_is h d 4 := ma_is H.1 (by omega) hd.2.2.1
  have ia : ∀ (o : Nat) (n : Nat), o < 241 → pb_SH o = (12, n) → pb_is h o 12 := fun o n ho e => ma_is H.1 ho e
  have cp : ∀ (f g : Nat → Int32) (n m : Nat), m < n → va_cpy f g 0 0 n m = f m := fun f g n m hm => by rw [pk_cpy_in (Nat.zero_le _) (by omega)]; simp
  have ge : (0 : Int32) ≤ nI Y.1 := (lA0 (show Y.1 < 2 ^ 31 by omega)).mpr trivial
  have cl : (nI Y.1).toNatClampNeg = Y.1 := nI_clamp (by omega)
  have k0 : pb_I (pb_pI h d 0 (pb_I h l 0)) d 0 = nI Y.1 := by rw [ma_Ik, if_pos rfl, if_pos rfl]; exact L.2.1
  unfold f_73
  rw [if_pos il, if_pos id, z0, k0, cl]
  rw [wl_r1 H Lc, Option.bind_some, wl_r1 H hd, Option.bind_some, if_pos (ia _ _ (by omega) Lc.2.2.2.1), if_pos (ia _ _ (by omega) hd.2.2.2.1), if_pos ge, if_pos (by rw [Lc.2.2.2.1]; dsimp only; omega), if_pos (by rw [hd.2.2.2.1]; dsimp only; omega)]
  refine pb_hb_ex (fun g1 e1 => ?_)
  have f1 : ma_fr [d + 1, d + 2, d + 3, d + 4] [(d, 0)] h g1 := by rw [e1]; exact ma_fr_pW (ma_fr_pI (ma_fr_r _ _ _) (.inr (by simp)) _) (by simp) _
  have w1 : ∀ o, o ≠ d + 1 → pb_I g1 o = pb_I (pb_pI h d 0 (pb_I h l 0)) o := fun o x => by rw [e1, ma_I_pW, if_neg x]
  have n1 : pb_I g1 d 0 = nI Y.1 := by rw [w1 d (by omega)]; exact k0
  have r1 : ∀ m, m < Y.1 → pb_I g1 (d + 1) m = pb_I h (l + 1) m := fun m hm => by rw [e1]; simp (disch := omega) only [ma_Wk, ma_Ik, if_pos, if_neg, cp, if_true]
  rw [n1, cl]
  rw [wl_r2 H Lc, Option.bind_some, wl_r2 H hd, Option.bind_some, if_pos (ia _ _ (by omega) Lc.2.2.2.2.1), if_pos (ia _ _ (by omega) hd.2.2.2.2.1), if_pos ge, if_pos (by rw [Lc.2.2.2.2.1]; dsimp only; omega), if_pos (by rw [hd.2.2.2.2.1]; dsimp only; omega)]
  refine pb_hb_ex (fun g2 e2 => ?_)
  have f2 : ma_fr [d + 1, d + 2, d + 3, d + 4] [(d, 0)] h g2 := by rw [e2]; exact ma_fr_pW f1 (by simp) _
  have w2 : ∀ o, o ≠ d + 2 → pb_I g2 o = pb_I g1 o := fun o x => by rw [e2, ma_I_pW, if_neg x]
  have n2 : pb_I g2 d 0 = nI Y.1 := by rw [w2 d (by omega)]; exact n1
  have r2 : ∀ m, m < Y.1 → pb_I g2 (d + 2) m = pb_I h (l + 2) m := fun m hm => by
    rw [e2]; simp (disch := omega) only [ma_Wk, if_pos, if_neg, cp, if_true]
    rw [ma_fr_o f1 (by simp; omega) (by simp; omega)]
  rw [n2, cl]
  rw [wl_r3 H Lc, Option.bind_some, wl_r3 H hd, Option.bind_some, if_pos (ia _ _ (by omega) Lc.2.2.2.2.2.1), if_pos (ia _ _ (by omega) hd.2.2.2.2.2.1), if_pos ge, if_pos (by rw [Lc.2.2.2.2.2.1]; dsimp only; omega), if_pos (by rw [hd.2.2.2.2.2.1]; dsimp only; omega)]
  refine pb_hb_ex (fun g3 e3 => ?_)
  have f3 : ma_fr [d + 1, d + 2, d + 3, d + 4] [(d, 0)] h g3 := by rw [e3]; exact ma_fr_pW f2 (by simp) _
  have w3 : ∀ o, o ≠ d + 3 → pb_I g3 o = pb_I g2 o := fun o x => by rw [e3, ma_I_pW, if_neg x]
  have n3 : pb_I g3 d 0 = nI Y.1 := by rw [w3 d (by omega)]; exact n2
  have r3 : ∀ m, m < Y.1 → pb_I g3 (d + 3) m = pb_I h (l + 3) m := fun m hm => by
    rw [e3]; simp (disch := omega) only [ma_Wk, if_pos, if_neg, cp, if_true]
    rw [ma_fr_o f2 (by simp; omega) (by simp; omega)]
  rw [n3, cl]
  rw [wl_r4 H Lc, Option.bind_some, wl_r4 H hd, Option.bind_some, if_pos (ia _ _ (by omega) Lc.2.2.2.2.2.2.1), if_pos (ia _ _ (by omega) hd.2.2.2.2.2.2.1), if_pos ge, if_pos (by rw [Lc.2.2.2.2.2.2.1]; dsimp only; omega), if_pos (by rw [hd.2.2.2.2.2.2.1]; dsimp only; omega)]
  refine ⟨_, rfl, ?_⟩
  obtain ⟨g4, e4⟩ : ∃ g, g = pb_pW g3 (d + 4) (va_cpy (pb_I g3 (l + 4)) (pb_I g3 (d + 4)) 0 0 Y.1) := ⟨_, rfl⟩
  rw [← e4]
  have f4 : ma_fr [d + 1, d + 2, d + 3, d + 4] [(d, 0)] h g4 := by rw [e4]; exact ma_fr_pW f3 (by simp) _
  have w4 : ∀ o, o ≠ d + 4 → pb_I g4 o = pb_I g3 o := fun o x => by rw [e4, ma_I_pW, if_neg x]
  have n4 : pb_I g4 d 0 = nI Y.1 := by rw [w4 d (by omega)]; exact n3
  have r4 : ∀ m, m < Y.1 → pb_I g4 (d + 4) m = pb_I h (l + 4) m := fun m hm => by
    rw [e4]; simp (disch := omega) only [ma_Wk, if_pos, if_neg, cp, if_true]
    rw [ma_fr_o f3 (by simp; omega) (by simp; omega)]
  refine ⟨f4, hd, n4, ?_, fun j hj => ⟨?_, ?_, ?_, fun e => ?_⟩⟩
  · rw [w4 d (by omega), w3 d (by omega), w2 d (by omega), w1 d (by omega), ma_Ik, if_pos rfl, if_neg (by decide)]; exact h5
  · rw [w4 _ (by omega), w3 _ (by omega), w2 _ (by omega), r1 j hj]; exact (L.2.2.2 j hj).1
  · rw [w4 _ (by omega), w3 _ (by omega), r2 j hj]; exact (L.2.2.2 j hj).2.1
  · rw [w4 _ (by omega), r3 j hj]; exact (L.2.2.2 j hj).2.2.1
  · rw [r4 j hj]; exact (L.2.2.2 j hj).2.2.2 e
end

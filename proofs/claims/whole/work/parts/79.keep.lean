/-! text: where a text is kept, on both sides -/
section
variable {h : pb_HP} {N l d cap nb : Nat} {Y : ma_Y}
theorem c_73x (H : ma_H h) (L : tx_L h l cap nb Y) (hY : Y.1 ≤ cap) (hcap : cap < 2 ^ 31) (hd : ma_lt d cap) (h5 : pb_I h d 5 = nI nb) (hx : l + 4 < d ∨ d + 4 < l) : ∃ g, f_73 h d l = some g ∧ ma_fr [d + 1, d + 2, d + 3, d + 4] [(d, 0)] h g ∧ ma_L g d cap nb Y := by
  have z0 : (0 : Int32).toNatClampNeg = 0 := by decide
  have Lc := L.1
  have l1 := Lc.1
  have d1 := hd.1
  have il : pb_is h l 4 := ma_is H.1 (by omega) Lc.2.2.1
  have id : pb_is h d 4 := ma_is H.1 (by omega) hd.2.2.1
  have ia : ∀ (o : Nat) (n : Nat), o < 241 → pb_SH o = (12, n) → pb_is h o 12 := fun o n ho e => ma_is H.1 ho e
  have cp : ∀ (f g : Nat → Int32) (n m : Nat), m < n → va_cpy f g 0 0 n m = f m := fun f g n m hm => by rw [pk_cpy_in (Nat.zero_le _) (by omega)]; simp
  have ge : (0 : Int32) ≤ nI Y.1 := (lA0 (show Y.1 < 2 ^ 31 by omega)).mpr trivial
  have cl : (nI Y.1).toNatClampNeg = Y.1 := nI_clamp (by omega)
  have k0 : pb_I (pb_pI h d 0 (pb_I h l 0)) d 0 = nI Y.1 := by rw [ma_Ik, if_pos rfl, if_pos rfl]; exact L.2.1
  unfold f_73
  rw [if_pos il, if_pos id, z0, k0, cl]
  rw [wl_r1 H Lc, Option.bind_some, wl_r1 H hd, Option.bind_some, if_pos (ia _ _ (by omega) Lc.2.2.2.1), if_pos (ia _ _ (by omega) hd.2.2.2.1), if_pos ge, if_pos (by rw [Lc.2.2.2.1]; dsimp only; omega), if_pos (by rw [hd.2.2.2.1]; dsimp only; omega)]
  refine pb_hb_ex (fun g1 e1 => ?_)
  have f1 : ma_fr [d + 1, d + 2, d + 3, d + 4] [(d, 0)] h g1 := by rw [e1]; exact ma_fr_pW (ma_fr_pI (ma_fr_r _ _ _) (.inr (by simp)) _) (by simp) _
  have w1 : ∀ o, o ≠ d + 1 → pb_I g1 o = pb_I (pb_pI h d 0 (pb_I h l 0)) o := fun o x => by rw [e1, ma_I_pW, if_neg x]
  have n1 : pb_I g1 d 0 = nI Y.1 := by rw [w1 d (by omega)]; exact k0
  have r1 : ∀ m, m < Y.1 → pb_I g1 (d + 1) m = pb_I h (l + 1) m := fun m hm => by rw [e1]; simp (disch := omega) only [ma_Wk, ma_Ik, if_pos, if_neg, cp, if_true]
  rw [n1, cl]
  rw [wl_r2 H Lc, Option.bind_some, wl_r2 H hd, Option.bind_some, if_pos (ia _ _ (by omega) Lc.2.2.2.2.1), if_pos (ia _ _ (by omega) hd.2.2.2.2.1), if_pos ge, if_pos (by rw [Lc.2.2.2.2.1]; dsimp only; omega), if_pos (by rw [hd.2.2.2.2.1]; dsimp only; omega)]
  refine pb_hb_ex (fun g2 e2 => ?_)
  have f2 : ma_fr [d + 1, d + 2, d + 3, d + 4] [(d, 0)] h g2 := by rw [e2]; exact ma_fr_pW f1 (by simp) _
  have w2 : ∀ o, o ≠ d + 2 → pb_I g2 o = pb_I g1 o := fun o x => by rw [e2, ma_I_pW, if_neg x]
  have n2 : pb_I g2 d 0 = nI Y.1 := by rw [w2 d (by omega)]; exact n1
  have r2 : ∀ m, m < Y.1 → pb_I g2 (d + 2) m = pb_I h (l + 2) m := fun m hm => by
    rw [e2]; simp (disch := omega) only [ma_Wk, if_pos, if_neg, cp, if_true]
    rw [ma_fr_o f1 (by simp; omega) (by simp; omega)]
  rw [n2, cl]
  rw [wl_r3 H Lc, Option.bind_some, wl_r3 H hd, Option.bind_some, if_pos (ia _ _ (by omega) Lc.2.2.2.2.2.1), if_pos (ia _ _ (by omega) hd.2.2.2.2.2.1), if_pos ge, if_pos (by rw [Lc.2.2.2.2.2.1]; dsimp only; omega), if_pos (by rw [hd.2.2.2.2.2.1]; dsimp only; omega)]
  refine pb_hb_ex (fun g3 e3 => ?_)
  have f3 : ma_fr [d + 1, d + 2, d + 3, d + 4] [(d, 0)] h g3 := by rw [e3]; exact ma_fr_pW f2 (by simp) _
  have w3 : ∀ o, o ≠ d + 3 → pb_I g3 o = pb_I g2 o := fun o x => by rw [e3, ma_I_pW, if_neg x]
  have n3 : pb_I g3 d 0 = nI Y.1 := by rw [w3 d (by omega)]; exact n2
  have r3 : ∀ m, m < Y.1 → pb_I g3 (d + 3) m = pb_I h (l + 3) m := fun m hm => by
    rw [e3]; simp (disch := omega) only [ma_Wk, if_pos, if_neg, cp, if_true]
    rw [ma_fr_o f2 (by simp; omega) (by simp; omega)]
  rw [n3, cl]
  rw [wl_r4 H Lc, Option.bind_some, wl_r4 H hd, Option.bind_some, if_pos (ia _ _ (by omega) Lc.2.2.2.2.2.2.1), if_pos (ia _ _ (by omega) hd.2.2.2.2.2.2.1), if_pos ge, if_pos (by rw [Lc.2.2.2.2.2.2.1]; dsimp only; omega), if_pos (by rw [hd.2.2.2.2.2.2.1]; dsimp only; omega)]
  refine ⟨_, rfl, ?_⟩
  obtain ⟨g4, e4⟩ : ∃ g, g = pb_pW g3 (d + 4) (va_cpy (pb_I g3 (l + 4)) (pb_I g3 (d + 4)) 0 0 Y.1) := ⟨_, rfl⟩
  rw [← e4]
  have f4 : ma_fr [d + 1, d + 2, d + 3, d + 4] [(d, 0)] h g4 := by rw [e4]; exact ma_fr_pW f3 (by simp) _
  have w4 : ∀ o, o ≠ d + 4 → pb_I g4 o = pb_I g3 o := fun o x => by rw [e4, ma_I_pW, if_neg x]
  have n4 : pb_I g4 d 0 = nI Y.1 := by rw [w4 d (by omega)]; exact n3
  have r4 : ∀ m, m < Y.1 → pb_I g4 (d + 4) m = pb_I h (l + 4) m := fun m hm => by
    rw [e4]; simp (disch := omega) only [ma_Wk, if_pos, if_neg, cp, if_true]
    rw [ma_fr_o f3 (by simp; omega) (by simp; omega)]
  refine ⟨f4, hd, n4, ?_, fun j hj => ⟨?_, ?_, ?_, fun e => ?_⟩⟩
  · rw [w4 d (by omega), w3 d (by omega), w2 d (by omega), w1 d (by omega), ma_Ik, if_pos rfl, if_neg (by decide)]; exact h5
  · rw [w4 _ (by omega), w3 _ (by omega), w2 _ (by omega), r1 j hj]; exact (L.2.2 j hj).1
  · rw [w4 _ (by omega), w3 _ (by omega), r2 j hj]; exact (L.2.2 j hj).2.1
  · rw [w4 _ (by omega), r3 j hj]; exact (L.2.2 j hj).2.2.1
  · rw [r4 j hj]; exact (L.2.2 j hj).2.2.2 e
end
def tx_Y (X : ma_X) (s k m : Nat) (D : tx_T) : ma_X := (fun j => if s = 0 ∧ j = k then D.1 else X.1 j, fun j => if s = 1 ∧ j = k then D.2.2.1 else X.2.1 j, fun j => if s = 2 ∧ j = k then D.2.2.2 else X.2.2.1 j, fun j => if j = s then m else X.2.2.2.1 j, X.2.2.2.2)
section
variable {h : pb_HP} {N s k n : Nat} {X : ma_X} {D : tx_T}
/-- the developers' copy of what was read -/
theorem c_104 (H : ma_H h) (C : ma_CX h 1 X) (CC : tx_C h D) (G : tx_G D) (O : s = 0 → ma_OK D.1) (hX : ∀ s, s < 3 → X.2.2.2.1 s ≤ 2) (hs : s < 3) (hk : k < 2) : ∃ g, f_104 h 1 (nI s) (nI k) 163 = some g ∧ g.1 = h.1 ∧ pb_R g = pb_R h ∧ (∀ o, o < 1 ∨ 40 < o → pb_I g o = pb_I h o) ∧ ma_CX g 1 (tx_Y X s k (tx_mx (X.2.2.2.1 s) (k + 1)) D) := by
  have tt : ma_tt 1 := ma_ttX (.inl rfl)
  have ck : (nI k).toNatClampNeg = k := nI_clamp (by omega)
  have cs : (nI s).toNatClampNeg = s := nI_clamp (by omega)
  -- the last step
  have last : ∀ g, ma_H g → pb_I g 39 = pb_I h 39 → f_104_54 g 1 (nI s) (nI k) = some (pb_pI g 39 s (nI (tx_mx (X.2.2.2.1 s) (k + 1)))) := fun g Hg e => by
    have e2 : pb_I g 39 s = nI (X.2.2.2.1 s) := by rw [e]; exact C.2.2.2.1 s hs
    have b := hX s hs
    unfold f_104_54
    rw [if_pos (mi_1 Hg), mr_1_3 Hg, Option.bind_some, if_pos (mx_39 Hg hs), cs, e2, nI_1, tx_my _ _ (by omega) (by omega)]
  have fin : ∀ g, ma_H g → g.1 = h.1 → pb_R g = pb_R h → (∀ o, o < 1 ∨ 40 < o → pb_I g o = pb_I h o) → pb_I g 39 = pb_I h 39 → pb_I g 40 = pb_I h 40 → pb_I g 1 = pb_I h 1 → (∀ j, j < 2 → ma_V g (1 + 2 + 7 * j) ((tx_Y X s k 0 D).1 j)) → (∀ j, j < 2 → ma_L g (1 + 17 + 5 * j) 40 3 ((tx_Y X s k 0 D).2.1 j)) → (∀ j, j < 2 → ma_L g (1 + 28 + 5 * j) 8 2 ((tx_Y X s k 0 D).2.2.1 j)) → ∃ g', f_104_54 g 1 (nI s) (nI k) = some g' ∧ g'.1 = h.1 ∧ pb_R g' = pb_R h ∧ (∀ o, o < 1 ∨ 40 < o → pb_I g' o = pb_I h o) ∧ ma_CX g' 1 (tx_Y X s k (tx_mx (X.2.2.2.1 s) (k + 1)) D) := fun g Hg q1 q2 q3 e9 e40 e1 v1 v2 v3 => by
    refine ⟨_, last g Hg e9, q1, q2, fun o ho => ?_, ?_⟩
    · rw [ma_I_pI, if_neg (by omega)]; exact q3 o ho
    · have w : ∀ o, o ≠ 39 → pb_I (pb_pI g 39 s (nI (tx_mx (X.2.2.2.1 s) (k + 1)))) o = pb_I g o := fun o q => by rw [ma_I_pI, if_neg q]
      refine ⟨fun j hj => ma_V_e (v1 j hj) (fun o a b => w o (by omega)), fun j hj => ma_L_e (v2 j hj) (fun o a b => w o (by omega)), fun j hj => ma_L_e (v3 j hj) (fun o a b => w o (by omega)), fun j hj => ?_, fun j hj => ?_, ?_, ?_, ?_⟩
      · show pb_I _ 39 j = nI (if j = s then _ else _)
        rw [ma_Ik, if_pos rfl]
        by_cases z : j = s
        · rw [if_pos z, if_pos z]
        · rw [if_neg z, if_neg z, e9]; exact C.2.2.2.1 j hj
      · rw [w _ (by decide)]
        show pb_I g 40 j = _
        rw [e40]; exact C.2.2.2.2.1 j hj
      · rw [w _ (by decide), e1]; exact C.2.2.2.2.2.1
      · rw [w _ (by decide), e1]; exact C.2.2.2.2.2.2.1
      · rw [w _ (by decide), e1]; exact C.2.2.2.2.2.2.2
  unfold f_104
  have : s = 0 ∨ s = 1 ∨ s = 2 := by omega
  rcases this with z | z | z
  · subst z
    have dct : ma_ct (1 + 2 + 7 * k) := (C.1 k hk).1
    obtain ⟨g, a1, a2, a3⟩ := c_2 H CC.1 (O rfl) dct (.inr (by omega))
    have Hg := ma_H_fr H a2
    have w : ∀ o, o < 1 + 2 + 7 * k ∨ 1 + 2 + 7 * k + 6 < o → pb_I g o = pb_I h o := fun o q => ma_fr_o a2 (by simp; omega) (by simp)
    rw [if_neg (not_not_intro (show nI 0 = 0 from rfl)), if_pos (mi_1 H), wt_r0 H tt, Option.bind_some, if_pos (wt_x0 H tt hk), ck, wt_y0 H tt hk, Option.bind_some, if_pos (mi_163 H), mr_163_0 H, Option.bind_some, if_pos (wv_is H dct), a1, Option.bind_some]
    refine fin g Hg a2.1 a2.2.1 (fun o ho => w o (by omega)) (w _ (by omega)) (w _ (by omega)) (w _ (by omega)) (fun j hj => ?_) (fun j hj => ?_) (fun j hj => ?_)
    · show ma_V g (1 + 2 + 7 * j) (if 0 = 0 ∧ j = k then D.1 else X.1 j)
      by_cases c : j = k
      · rw [if_pos ⟨rfl, c⟩, c]; exact a3
      · rw [if_neg (fun q => c q.2)]; exact ma_V_e (C.1 j hj) (fun o a b => w o (by omega))
    · show ma_L g (1 + 17 + 5 * j) 40 3 (if 0 = 1 ∧ j = k then D.2.2.1 else X.2.1 j)
      rw [if_neg (by omega)]; exact ma_L_e (C.2.1 j hj) (fun o a b => w o (by omega))
    · show ma_L g (1 + 28 + 5 * j) 8 2 (if 0 = 2 ∧ j = k then D.2.2.2 else X.2.2.1 j)
      rw [if_neg (by omega)]; exact ma_L_e (C.2.2.1 j hj) (fun o a b => w o (by omega))
  · subst z
    have dlt : ma_lt (1 + 17 + 5 * k) 40 := (C.2.1 k hk).1
    obtain ⟨g, a1, a2, a3⟩ := c_73x H CC.2.2.2.1 G.2.2.2.2.2.2.2.1.1 (by decide) dlt (C.2.1 k hk).2.2.1 (.inr (by omega))
    have Hg := ma_H_fr H a2
    have w : ∀ o, o < 1 + 17 + 5 * k ∨ 1 + 17 + 5 * k + 4 < o → pb_I g o = pb_I h o := fun o q => ma_fr_o a2 (by simp; omega) (by simp; omega)
    have isd : pb_is h (1 + 17 + 5 * k) 4 := ma_is H.1 (by have := dlt.1; omega) dlt.2.2.1
    rw [if_pos (show ¬ nI 1 = 0 by decide), if_neg (not_not_intro (show nI 1 = 1 from rfl)), if_pos (mi_1 H), wt_r1 H tt, Option.bind_some, if_pos (wt_x1 H tt hk), ck, wt_y1 H tt hk, Option.bind_some, if_pos (mi_163 H), mr_163_1 H, Option.bind_some, if_pos isd, a1, Option.bind_some]
    refine fin g Hg a2.1 a2.2.1 (fun o ho => w o (by omega)) (w _ (by omega)) (w _ (by omega)) (w _ (by omega)) (fun j hj => ?_) (fun j hj => ?_) (fun j hj => ?_)
    · show ma_V g (1 + 2 + 7 * j) (if 1 = 0 ∧ j = k then D.1 else X.1 j)
      rw [if_neg (by omega)]; exact ma_V_e (C.1 j hj) (fun o a b => w o (by omega))
    · show ma_L g (1 + 17 + 5 * j) 40 3 (if 1 = 1 ∧ j = k then D.2.2.1 else X.2.1 j)
      by_cases c : j = k
      · rw [if_pos ⟨rfl, c⟩, c]; exact a3
      · rw [if_neg (fun q => c q.2)]; exact ma_L_e (C.2.1 j hj) (fun o a b => w o (by omega))
    · show ma_L g (1 + 28 + 5 * j) 8 2 (if 1 = 2 ∧ j = k then D.2.2.2 else X.2.2.1 j)
      rw [if_neg (by omega)]; exact ma_L_e (C.2.2.1 j hj) (fun o a b => w o (by omega))
  · subst z
    have dlt : ma_lt (1 + 28 + 5 * k) 8 := (C.2.2.1 k hk).1
    obtain ⟨g, a1, a2, a3⟩ := c_73x H CC.2.2.2.2 G.2.2.2.2.2.2.2.2.1 (by decide) dlt (C.2.2.1 k hk).2.2.1 (.inr (by omega))
    have Hg := ma_H_fr H a2
    have w : ∀ o, o < 1 + 28 + 5 * k ∨ 1 + 28 + 5 * k + 4 < o → pb_I g o = pb_I h o := fun o q => ma_fr_o a2 (by simp; omega) (by simp; omega)
    have isd : pb_is h (1 + 28 + 5 * k) 4 := ma_is H.1 (by have := dlt.1; omega) dlt.2.2.1
    rw [if_pos (show ¬ nI 2 = 0 by decide), if_pos (show ¬ nI 2 = 1 by decide), if_pos (mi_1 H), wt_r2 H tt, Option.bind_some, if_pos (wt_x2 H tt hk), ck, wt_y2 H tt hk, Option.bind_some, if_pos (mi_163 H), mr_163_2 H, Option.bind_some, if_pos isd, a1, Option.bind_some]
    refine fin g Hg a2.1 a2.2.1 (fun o ho => w o (by omega)) (w _ (by omega)) (w _ (by omega)) (w _ (by omega)) (fun j hj => ?_) (fun j hj => ?_) (fun j hj => ?_)
    · show ma_V g (1 + 2 + 7 * j) (if 2 = 0 ∧ j = k then D.1 else X.1 j)
      rw [if_neg (by omega)]; exact ma_V_e (C.1 j hj) (fun o a b => w o (by omega))
    · show ma_L g (1 + 17 + 5 * j) 40 3 (if 2 = 1 ∧ j = k then D.2.2.1 else X.2.1 j)
      rw [if_neg (by omega)]; exact ma_L_e (C.2.1 j hj) (fun o a b => w o (by omega))
    · show ma_L g (1 + 28 + 5 * j) 8 2 (if 2 = 2 ∧ j = k then D.2.2.2 else X.2.2.1 j)
      by_cases c : j = k
      · rw [if_pos ⟨rfl, c⟩, c]; exact a3
      · rw [if_neg (fun q => c q.2)]; exact ma_L_e (C.2.2.1 j hj) (fun o a b => w o (by omega))
/-- the developers' tape, fault and place anew -/
theorem ma_CX_t {g : pb_HP} (C : ma_CX h 1 X) (w : ∀ o, 1 < o → o ≤ 40 → pb_I g o = pb_I h o) {f q : Nat} (e5 : pb_I g 1 5 = nI n) (e6 : pb_I g 1 6 = nI f) (e7 : pb_I g 1 7 = mI q) : ma_CX g 1 (X.1, X.2.1, X.2.2.1, X.2.2.2.1, X.2.2.2.2.1, n, f, q) :=
  ⟨fun j hj => ma_V_e (C.1 j hj) (fun o a b => w o (by omega) (by omega)), fun j hj => ma_L_e (C.2.1 j hj) (fun o a b => w o (by omega) (by omega)), fun j hj => ma_L_e (C.2.2.1 j hj) (fun o a b => w o (by omega) (by omega)), fun j hj => by rw [w _ (by omega) (by omega)]; exact C.2.2.2.1 j hj, fun j hj => by rw [w _ (by omega) (by omega)]; exact C.2.2.2.2.1 j hj, e5, e6, e7⟩
end

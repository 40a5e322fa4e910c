/-! image, again: the developers' copy, whole -/
section
variable {h : pb_HP} {N s d : Nat} {X X0 : ma_X}
theorem c_101 (H : ma_H h) (cs : ma_tt s) (cd : ma_tt d) (hx : s + 39 < d ∨ d + 39 < s) (G : ma_GX X) (C : ma_CX h s X) (D : ma_CX h d X0) (hN : 3000 < N) : ∃ g, f_101 N h d s = some g ∧ (g.1 = h.1 ∧ pb_R g = pb_R h ∧ (∀ o, o < d ∨ d + 39 < o → pb_I g o = pb_I h o) ∧ ma_CX g d X) := by
  obtain ⟨g0, b0, p0, q0, u0, v0, l0, m0⟩ := c_101l (N := N) H cs cd hx G C D hN
  have H0 : ma_H g0 := ⟨p0.trans H.1, fun o k z => by rw [q0]; exact H.2 o k z⟩
  have z0 : (0 : Int32).toNatClampNeg = 0 := by decide
  have z3 : (3 : Int32).toNatClampNeg = 3 := by decide
  have z6 : (600 : Int32).toNatClampNeg = 600 := by decide
  have cp : ∀ (f g : Nat → Int32) (n m : Nat), m < n → va_cpy f g 0 0 n m = f m := fun f g n m hm => by rw [pk_cpy_in (Nat.zero_le _) (by omega)]; simp
  have s3 := cs.2.2.2.2.2.2.2.2.2.2.1
  have s4 := cs.2.2.2.2.2.2.2.2.2.2.2.1
  have d3 := cd.2.2.2.2.2.2.2.2.2.2.1
  have d4 := cd.2.2.2.2.2.2.2.2.2.2.2.1
  have us : ∀ o, s ≤ o → o ≤ s + 39 → pb_I g0 o = pb_I h o := fun o a b => u0 o (by omega)
  unfold f_101
  rw [b0, Option.bind_some, if_pos (wt_is H0 cs), wt_r3 H0 cs, Option.bind_some, if_pos (wt_is H0 cd), wt_r3 H0 cd, Option.bind_some, if_pos (wt_3 H0 cs), if_pos (wt_3 H0 cd), z0, z3, z6, if_pos (by rw [s3]; decide), if_pos (by rw [d3]; decide)]
  refine pb_hb_ex (fun g1 e1 => ?_)
  have w1 : ∀ o, o ≠ d + 38 → pb_I g1 o = pb_I g0 o := fun o x => by rw [e1, ma_I_pW, if_neg x]
  have r1 : ∀ m, m < 3 → pb_I g1 (d + 38) m = pb_I h (s + 38) m := fun m hm => by
    rw [e1]; simp (disch := omega) only [ma_Wk, if_pos, cp, if_true]
    rw [us _ (by omega) (by omega)]
  have by6 : pb_bytB (pb_I g1 (s + 39)) 0 600 = true := List.all_eq_true.mpr (fun i hi => beq_iff_eq.mpr (by
    have hi := List.mem_range.mp hi
    rw [Nat.zero_add, w1 _ (by omega), us _ (by omega) (by omega), C.2.2.2.2.1 i hi]
    exact G.2.2.2.2.1 i hi))
  rw [wt_r4 H0 cs, Option.bind_some, wt_r4 H0 cd, Option.bind_some, if_pos (wt_4 H0 cs), if_pos (wt_4 H0 cd), if_pos (by rw [s4]; decide), if_pos (by rw [d4]; decide), if_pos by6]
  refine pb_hb_ex (fun g2 e2 => ?_)
  have w2 : ∀ o, o ≠ d + 39 → pb_I g2 o = pb_I g1 o := fun o x => by rw [e2, ma_I_pW, if_neg x]
  have r2 : ∀ m, m < 600 → pb_I g2 (d + 39) m = pb_I h (s + 39) m := fun m hm => by
    rw [e2]; simp (disch := omega) only [ma_Wk, if_pos, cp, if_true]
    rw [w1 _ (by omega), us _ (by omega) (by omega)]
  have t2 : ∀ k, pb_I g2 s k = pb_I h s k := fun k => by rw [w2 _ (by omega), w1 _ (by omega), us _ (by omega) (by omega)]
  have ne : ¬ s = d := by omega
  refine pb_hb_ex (fun g3 e3 => ?_)
  have w3 : ∀ o, o ≠ d → pb_I g3 o = pb_I g2 o := fun o x => by rw [e3, ma_I_pI, if_neg x, ma_I_pI, if_neg x, ma_I_pI, if_neg x]
  have c5 : pb_I g3 d 5 = pb_I h s 5 := by rw [e3, ma_Ik, if_pos rfl, if_neg (by decide), ma_Ik, if_pos rfl, if_neg (by decide), ma_Ik, if_pos rfl, if_pos rfl, t2]
  have c6 : pb_I g3 d 6 = pb_I h s 6 := by rw [e3, ma_Ik, if_pos rfl, if_neg (by decide), ma_Ik, if_pos rfl, if_pos rfl, ma_Ik, if_neg ne, t2]
  have c7 : pb_I g3 d 7 = pb_I h s 7 := by rw [e3, ma_Ik, if_pos rfl, if_pos rfl, ma_Ik, if_neg ne, ma_Ik, if_neg ne, t2]
  have ww : ∀ o, o ≠ d → o ≠ d + 38 → o ≠ d + 39 → pb_I g3 o = pb_I g0 o := fun o x y z => by rw [w3 o x, w2 o z, w1 o y]
  have eh : g3.1 = g0.1 ∧ pb_R g3 = pb_R g0 := by rw [e3, e2, e1]; exact ⟨rfl, rfl⟩
  refine ⟨g3, rfl, eh.1.trans p0, eh.2.trans q0, fun o ho => by rw [ww o (by omega) (by omega) (by omega), u0 o (by omega)], fun k hk => ma_V_e (v0 k hk) (fun o a b => ww o (by omega) (by omega) (by omega)), fun k hk => ma_L_e (l0 k hk) (fun o a b => ww o (by omega) (by omega) (by omega)), fun k hk => ma_L_e (m0 k hk) (fun o a b => ww o (by omega) (by omega) (by omega)), fun i hi => ?_, fun j hj => ?_, ?_, ?_, ?_⟩
  · rw [w3 _ (by omega), w2 _ (by omega), r1 i hi]; exact C.2.2.2.1 i hi
  · rw [w3 _ (by omega), r2 j hj]; exact C.2.2.2.2.1 j hj
  · rw [c5]; exact C.2.2.2.2.2.1
  · rw [c6]; exact C.2.2.2.2.2.2.1
  · rw [c7]; exact C.2.2.2.2.2.2.2
end

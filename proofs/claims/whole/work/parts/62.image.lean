/-! image, again: the loop of the developers' copy -/
theorem ma_w1 {S E : Type} {f : S → Option (S ⊕ E)} {s t : S} (n : Nat) (e : f s = some (.inl t)) : pb_wl f (n + 1) s = pb_wl f n t := by simp only [pb_wl, e]
theorem ma_w0 {S E : Type} {f : S → Option (S ⊕ E)} {s : S} {x : E} (n : Nat) (e : f s = some (.inr x)) : pb_wl f (n + 1) s = some x := by simp only [pb_wl, e]
section
variable {h : pb_HP} {N s d : Nat} {X X0 : ma_X}
theorem c_101l (H : ma_H h) (cs : ma_tt s) (cd : ma_tt d) (hx : s + 39 < d ∨ d + 39 < s) (G : ma_GX X) (C : ma_CX h s X) (D : ma_CX h d X0) (hN : 3000 < N) : ∃ g, pb_wl (f_101_2s N d s) N (0, h) = some g ∧ g.1 = h.1 ∧ pb_R g = pb_R h ∧ (∀ o, o < d + 2 ∨ d + 37 < o → pb_I g o = pb_I h o) ∧ (∀ k, k < 2 → ma_V g (d + 2 + 7 * k) (X.1 k)) ∧ (∀ k, k < 2 → ma_L g (d + 17 + 5 * k) 40 3 (X.2.1 k)) ∧ ∀ k, k < 2 → ma_L g (d + 28 + 5 * k) 8 2 (X.2.2.1 k) := by
  obtain ⟨g1, b1, p1, q1, u1, v1, l1, m1⟩ := c_101s (N := N) (k := 0) H cs cd hx (by decide) (C.1 0 (by decide)) (G.1 0 (by decide)).1 (D.1 0 (by decide)).1 (C.2.1 0 (by decide)) (G.2.1 0 (by decide)).1 (D.2.1 0 (by decide)).1 (D.2.1 0 (by decide)).2.2.1 (C.2.2.1 0 (by decide)) (G.2.2.1 0 (by decide)).1 (D.2.2.1 0 (by decide)).1 (D.2.2.1 0 (by decide)).2.2.1
  have H1 : ma_H g1 := ⟨p1.trans H.1, fun o k z => by rw [q1]; exact H.2 o k z⟩
  obtain ⟨g2, b2, p2, q2, u2, v2, l2, m2⟩ := c_101s (N := N) (k := 1) (K := X.1 1) (Y := X.2.1 1) (Z := X.2.2.1 1) H1 cs cd hx (by decide) (ma_V_e (C.1 1 (by decide)) (fun o a b => u1 o (by omega) (by omega) (by omega))) (G.1 1 (by decide)).1 (D.1 1 (by decide)).1 (ma_L_e (C.2.1 1 (by decide)) (fun o a b => u1 o (by omega) (by omega) (by omega))) (G.2.1 1 (by decide)).1 (D.2.1 1 (by decide)).1 (by rw [u1 _ (by omega) (by omega) (by omega)]; exact (D.2.1 1 (by decide)).2.2.1) (ma_L_e (C.2.2.1 1 (by decide)) (fun o a b => u1 o (by omega) (by omega) (by omega))) (G.2.2.1 1 (by decide)).1 (D.2.2.1 1 (by decide)).1 (by rw [u1 _ (by omega) (by omega) (by omega)]; exact (D.2.2.1 1 (by decide)).2.2.1)
  have two : ∀ (P : Nat → Prop), P 0 → P 1 → ∀ k, k < 2 → P k := fun P a b k hk => by
    have : k = 0 ∨ k = 1 := by omega
    rcases this with e | e <;> rw [e] <;> assumption
  have b3 : f_101_2s N d s (nI 2, g2) = some (.inr g2) := by simp only [f_101_2s, if_pos (show (2 : Int32) ≤ nI 2 by decide)]
  refine ⟨g2, ?_, p2.trans p1, q2.trans q1, fun o ho => by rw [u2 o (by omega) (by omega) (by omega), u1 o (by omega) (by omega) (by omega)], two _ (ma_V_e v1 (fun o a b => u2 o (by omega) (by omega) (by omega))) v2, two _ (ma_L_e l1 (fun o a b => u2 o (by omega) (by omega) (by omega))) l2, two _ (ma_L_e m1 (fun o a b => u2 o (by omega) (by omega) (by omega))) m2⟩
  have e : ∀ n, pb_wl (f_101_2s N d s) (n + 3) (0, h) = some g2 := fun n => by
    have b1 : f_101_2s N d s (0, h) = some (.inl (nI 1, g1)) := b1
    have b2 : f_101_2s N d s (nI 1, g1) = some (.inl (nI 2, g2)) := b2
    rw [ma_w1 (n + 2) b1, ma_w1 (n + 1) b2, ma_w0 n b3]
  have := e (N - 3)
  rw [show N - 3 + 3 = N by omega] at this
  exact this
end

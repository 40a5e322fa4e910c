/-! image, again: a whole of what is told, on the developers' side -/
def ma_tt (t : Nat) : Prop := t + 39 < 162 ∧ pb_SH t = (7, 0) ∧ ma_RT t 0 = some (t + 1) ∧ ma_RT t 1 = some (t + 16) ∧ ma_RT t 2 = some (t + 27) ∧ ma_RT t 3 = some (t + 38) ∧ ma_RT t 4 = some (t + 39) ∧ pb_SH (t + 1) = (15, 2) ∧ pb_SH (t + 16) = (16, 2) ∧ pb_SH (t + 27) = (16, 2) ∧ pb_SH (t + 38) = (12, 3) ∧ pb_SH (t + 39) = (13, 600) ∧ ∀ k, k < 2 → ma_RT (t + 1) k = some (t + 2 + 7 * k) ∧ ma_RT (t + 16) k = some (t + 17 + 5 * k) ∧ ma_RT (t + 27) k = some (t + 28 + 5 * k)
theorem ma_ttX {t : Nat} (h : t = 1 ∨ t = 42 ∨ t = 82 ∨ t = 122) : ma_tt t := by
  have two : ∀ (P : Nat → Prop), P 0 → P 1 → ∀ k, k < 2 → P k := fun P a b k hk => by
    have : k = 0 ∨ k = 1 := by omega
    rcases this with e | e <;> rw [e] <;> assumption
  rcases h with rfl | rfl | rfl | rfl <;> exact ⟨by decide, rfl, rfl, rfl, rfl, rfl, rfl, rfl, rfl, rfl, rfl, rfl, two _ ⟨rfl, rfl, rfl⟩ ⟨rfl, rfl, rfl⟩⟩
section
variable {h : pb_HP} {t : Nat}
theorem wt_is (H : ma_H h) (c : ma_tt t) : pb_is h t 7 := ma_is H.1 (by have := c.1; omega) c.2.1
theorem wt_r (H : ma_H h) {o k r : Nat} (ho : o < 163) (e : ma_RT o k = some r) : pb_R h o k = some r := by rw [H.2 o k (fun q => by omega)]; exact e
theorem wt_r0 (H : ma_H h) (c : ma_tt t) : pb_R h t 0 = some (t + 1) := wt_r H (by have := c.1; omega) c.2.2.1
theorem wt_r1 (H : ma_H h) (c : ma_tt t) : pb_R h t 1 = some (t + 16) := wt_r H (by have := c.1; omega) c.2.2.2.1
theorem wt_r2 (H : ma_H h) (c : ma_tt t) : pb_R h t 2 = some (t + 27) := wt_r H (by have := c.1; omega) c.2.2.2.2.1
theorem wt_r3 (H : ma_H h) (c : ma_tt t) : pb_R h t 3 = some (t + 38) := wt_r H (by have := c.1; omega) c.2.2.2.2.2.1
theorem wt_r4 (H : ma_H h) (c : ma_tt t) : pb_R h t 4 = some (t + 39) := wt_r H (by have := c.1; omega) c.2.2.2.2.2.2.1
theorem wt_x0 (H : ma_H h) (c : ma_tt t) {k : Nat} (hk : k < 2) : pb_ar h (t + 1) 15 (nI k) := ma_ar H.1 (by have := c.1; omega) c.2.2.2.2.2.2.2.1 hk (by decide)
theorem wt_x1 (H : ma_H h) (c : ma_tt t) {k : Nat} (hk : k < 2) : pb_ar h (t + 16) 16 (nI k) := ma_ar H.1 (by have := c.1; omega) c.2.2.2.2.2.2.2.2.1 hk (by decide)
theorem wt_x2 (H : ma_H h) (c : ma_tt t) {k : Nat} (hk : k < 2) : pb_ar h (t + 27) 16 (nI k) := ma_ar H.1 (by have := c.1; omega) c.2.2.2.2.2.2.2.2.2.1 hk (by decide)
theorem wt_y0 (H : ma_H h) (c : ma_tt t) {k : Nat} (hk : k < 2) : pb_R h (t + 1) k = some (t + 2 + 7 * k) := wt_r H (by have := c.1; omega) (c.2.2.2.2.2.2.2.2.2.2.2.2 k hk).1
theorem wt_y1 (H : ma_H h) (c : ma_tt t) {k : Nat} (hk : k < 2) : pb_R h (t + 16) k = some (t + 17 + 5 * k) := wt_r H (by have := c.1; omega) (c.2.2.2.2.2.2.2.2.2.2.2.2 k hk).2.1
theorem wt_y2 (H : ma_H h) (c : ma_tt t) {k : Nat} (hk : k < 2) : pb_R h (t + 27) k = some (t + 28 + 5 * k) := wt_r H (by have := c.1; omega) (c.2.2.2.2.2.2.2.2.2.2.2.2 k hk).2.2
theorem wt_3 (H : ma_H h) (c : ma_tt t) : pb_is h (t + 38) 12 := ma_is H.1 (by have := c.1; omega) c.2.2.2.2.2.2.2.2.2.2.1
theorem wt_4 (H : ma_H h) (c : ma_tt t) : pb_is h (t + 39) 13 := ma_is H.1 (by have := c.1; omega) c.2.2.2.2.2.2.2.2.2.2.2.1
end

/-! A county copied; what a deed does. -/
theorem ma_Wk (h : pb_HP) (o : Nat) (f : Nat → Int32) (p j : Nat) : pb_I (pb_pW h o f) p j = if p = o then f j else pb_I h p j := by
  rw [ma_I_pW]; split <;> rfl
theorem pb_hb_ex {β : Type} {P : β → Prop} {E : pb_HP} {k : pb_HP → Option β} (h : ∀ g, g = E → ∃ r, k g = some r ∧ P r) : ∃ r, pb_hb E k = some r ∧ P r := h E rfl
theorem c_2 {h : pb_HP} {c d : Nat} {K : ma_K} (H : ma_H h) (V : ma_V h c K) (O : ma_OK K) (hd : ma_ct d) (hx : c + 6 < d ∨ d + 6 < c) : ∃ g, f_2 h d c = some g ∧ ma_fr [d, d + 1, d + 2, d + 3, d + 4, d + 5, d + 6] [] h g ∧ ma_V g d K := by
  have z0 : (0 : Int32).toNatClampNeg = 0 := by decide
  have z6 : (6 : Int32).toNatClampNeg = 6 := by decide
  have z36 : (36 : Int32).toNatClampNeg = 36 := by decide
  have s1 := hd.2.2.2.1
  have s2 := hd.2.2.2.2.1
  have s3 := hd.2.2.2.2.2.1
  have s4 := hd.2.2.2.2.2.2.1
  have s5 := hd.2.2.2.2.2.2.2.1
  have s6 := hd.2.2.2.2.2.2.2.2.1
  have t1 := V.1.2.2.2.1
  have t2 := V.1.2.2.2.2.1
  have t3 := V.1.2.2.2.2.2.1
  have t4 := V.1.2.2.2.2.2.2.1
  have t5 := V.1.2.2.2.2.2.2.2.1
  have t6 := V.1.2.2.2.2.2.2.2.2.1
  have hd1 := hd.1
  have hc1 := V.1.1
  have ia : ∀ (o : Nat) (n : Nat), o < 241 → pb_SH o = (12, n) → pb_is h o 12 := fun o n ho e => ma_is H.1 ho e
  have ic := wv_is H V.1
  have id := wv_is H hd
  have cp : ∀ (f g : Nat → Int32) (n m : Nat), m < n → va_cpy f g 0 0 n m = f m := fun f g n m hm => by rw [pk_cpy_in (Nat.zero_le _) (by omega)]; simp
  have hme := O.1
  have hch := O.2.1
  unfold f_2
  rw [if_pos ic, if_pos id, z0, z6, z36]
  rw [jv_r2 H V.1, Option.bind_some, jv_r2 H hd, Option.bind_some, if_pos (ia _ _ (by omega) t1), if_pos (ia _ _ (by omega) s1), if_pos (by rw [t1]; decide), if_pos (by rw [s1]; decide)]
  refine pb_hb_ex (fun g1 e1 => ?_)
  have f1 : ma_fr [d, d + 1, d + 2, d + 3, d + 4, d + 5, d + 6] [] h g1 := by rw [e1]; exact ma_fr_pW (ma_fr_pI (ma_fr_pI (ma_fr_r _ _ _) (.inl (by simp)) _) (.inl (by simp)) _) (by simp) _
  have a0 : pb_I g1 d 0 = nI (K 0 0) := by rw [e1]; simp (disch := omega) only [ma_Wk, ma_Ik, if_pos, if_neg]; exact V.2.1
  have a1 : pb_I g1 d 1 = nI (K 0 1) := by rw [e1]; simp (disch := omega) only [ma_Wk, ma_Ik, if_pos, if_neg]; exact V.2.2.1
  have r1 : ∀ m, m < 6 → pb_I g1 (d + 1) m = pb_I h (c + 1) m := fun m hm => by rw [e1]; simp (disch := omega) only [ma_Wk, ma_Ik, if_pos, if_neg, cp, if_true]
  have u1 : ∀ o, c ≤ o → o ≤ c + 6 → pb_I g1 o = pb_I h o := fun o x y => ma_fr_o f1 (by simp; omega) (by simp)
  rw [jv_r3 H V.1, Option.bind_some, jv_r3 H hd, Option.bind_some, if_pos (ia _ _ (by omega) t2), if_pos (ia _ _ (by omega) s2), if_pos (by rw [t2]; decide), if_pos (by rw [s2]; decide)]
  refine pb_hb_ex (fun g2 e2 => ?_)
  have f2 : ma_fr [d, d + 1, d + 2, d + 3, d + 4, d + 5, d + 6] [] h g2 := by rw [e2]; exact ma_fr_pW f1 (by simp) _
  have w2 : ∀ o, o ≠ d + 2 → pb_I g2 o = pb_I g1 o := fun o x => by rw [e2, ma_I_pW, if_neg x]
  have r2 : ∀ m, m < 6 → pb_I g2 (d + 2) m = pb_I h (c + 2) m := fun m hm => by rw [e2]; simp (disch := omega) only [ma_Wk, if_pos, if_neg, cp, if_true]; rw [u1 _ (by omega) (by omega)]
  have u2 : ∀ o, c ≤ o → o ≤ c + 6 → pb_I g2 o = pb_I h o := fun o x y => ma_fr_o f2 (by simp; omega) (by simp)
  rw [jv_r4 H V.1, Option.bind_some, jv_r4 H hd, Option.bind_some, if_pos (ia _ _ (by omega) t3), if_pos (ia _ _ (by omega) s3), if_pos (by rw [t3]; decide), if_pos (by rw [s3]; decide)]
  refine pb_hb_ex (fun g3 e3 => ?_)
  have f3 : ma_fr [d, d + 1, d + 2, d + 3, d + 4, d + 5, d + 6] [] h g3 := by rw [e3]; exact ma_fr_pW f2 (by simp) _
  have w3 : ∀ o, o ≠ d + 3 → pb_I g3 o = pb_I g2 o := fun o x => by rw [e3, ma_I_pW, if_neg x]
  have r3 : ∀ m, m < 6 → pb_I g3 (d + 3) m = pb_I h (c + 3) m := fun m hm => by rw [e3]; simp (disch := omega) only [ma_Wk, if_pos, if_neg, cp, if_true]; rw [u2 _ (by omega) (by omega)]
  have u3 : ∀ o, c ≤ o → o ≤ c + 6 → pb_I g3 o = pb_I h o := fun o x y => ma_fr_o f3 (by simp; omega) (by simp)
  rw [jv_r5 H V.1, Option.bind_some, jv_r5 H hd, Option.bind_some, if_pos (ia _ _ (by omega) t4), if_pos (ia _ _ (by omega) s4), if_pos (by rw [t4]; decide), if_pos (by rw [s4]; decide)]
  refine pb_hb_ex (fun g4 e4 => ?_)
  have f4 : ma_fr [d, d + 1, d + 2, d + 3, d + 4, d + 5, d + 6] [] h g4 := by rw [e4]; exact ma_fr_pW f3 (by simp) _
  have w4 : ∀ o, o ≠ d + 4 → pb_I g4 o = pb_I g3 o := fun o x => by rw [e4, ma_I_pW, if_neg x]
  have r4 : ∀ m, m < 6 → pb_I g4 (d + 4) m = pb_I h (c + 4) m := fun m hm => by rw [e4]; simp (disch := omega) only [ma_Wk, if_pos, if_neg, cp, if_true]; rw [u3 _ (by omega) (by omega)]
  have u4 : ∀ o, c ≤ o → o ≤ c + 6 → pb_I g4 o = pb_I h o := fun o x y => ma_fr_o f4 (by simp; omega) (by simp)
  rw [jv_r6 H V.1, Option.bind_some, jv_r6 H hd, Option.bind_some, if_pos (ia _ _ (by omega) t5), if_pos (ia _ _ (by omega) s5), if_pos (by rw [t5]; decide), if_pos (by rw [s5]; decide)]
  refine pb_hb_ex (fun g5 e5 => ?_)
  have f5 : ma_fr [d, d + 1, d + 2, d + 3, d + 4, d + 5, d + 6] [] h g5 := by rw [e5]; exact ma_fr_pW f4 (by simp) _
  have w5 : ∀ o, o ≠ d + 5 → pb_I g5 o = pb_I g4 o := fun o x => by rw [e5, ma_I_pW, if_neg x]
  have r5 : ∀ m, m < 6 → pb_I g5 (d + 5) m = pb_I h (c + 5) m := fun m hm => by rw [e5]; simp (disch := omega) only [ma_Wk, if_pos, if_neg, cp, if_true]; rw [u4 _ (by omega) (by omega)]
  have u5 : ∀ o, c ≤ o → o ≤ c + 6 → pb_I g5 o = pb_I h o := fun o x y => ma_fr_o f5 (by simp; omega) (by simp)
  rw [jv_r7 H V.1, Option.bind_some, jv_r7 H hd, Option.bind_some, if_pos (ia _ _ (by omega) t6), if_pos (ia _ _ (by omega) s6), if_pos (by rw [t6]; decide), if_pos (by rw [s6]; decide)]
  refine ⟨_, rfl, ?_⟩
  obtain ⟨g6, e6⟩ : ∃ g, g = pb_pW g5 (d + 6) (va_cpy (pb_I g5 (c + 6)) (pb_I g5 (d + 6)) 0 0 36) := ⟨_, rfl⟩
  rw [← e6]
  have f6 : ma_fr [d, d + 1, d + 2, d + 3, d + 4, d + 5, d + 6] [] h g6 := by rw [e6]; exact ma_fr_pW f5 (by simp) _
  have w6 : ∀ o, o ≠ d + 6 → pb_I g6 o = pb_I g5 o := fun o x => by rw [e6, ma_I_pW, if_neg x]
  have r6 : ∀ m, m < 36 → pb_I g6 (d + 6) m = pb_I h (c + 6) m := fun m hm => by rw [e6]; simp (disch := omega) only [ma_Wk, if_pos, if_neg, cp, if_true]; rw [u5 _ (by omega) (by omega)]
  have u6 : ∀ o, c ≤ o → o ≤ c + 6 → pb_I g6 o = pb_I h o := fun o x y => ma_fr_o f6 (by simp; omega) (by simp)
  refine ⟨f6, hd, ?_, ?_, fun m hm => ?_, fun m hm => ?_, fun m hm => ?_, fun m hm => ?_, fun m hm => ?_, fun m hm => ?_⟩
  · rw [w6 _ (by omega), w5 _ (by omega), w4 _ (by omega), w3 _ (by omega), w2 _ (by omega)]; exact a0
  · rw [w6 _ (by omega), w5 _ (by omega), w4 _ (by omega), w3 _ (by omega), w2 _ (by omega)]; exact a1
  · rw [w6 _ (by omega), w5 _ (by omega), w4 _ (by omega), w3 _ (by omega), w2 _ (by omega), r1 m (by omega)]; exact V.2.2.2.1 m hm
  · rw [w6 _ (by omega), w5 _ (by omega), w4 _ (by omega), w3 _ (by omega), r2 m (by omega)]; exact V.2.2.2.2.1 m hm
  · rw [w6 _ (by omega), w5 _ (by omega), w4 _ (by omega), r3 m (by omega)]; exact V.2.2.2.2.2.1 m hm
  · rw [w6 _ (by omega), w5 _ (by omega), r4 m (by omega)]; exact V.2.2.2.2.2.2.1 m hm
  · rw [w6 _ (by omega), r5 m (by omega)]; exact V.2.2.2.2.2.2.2.1 m hm
  · rw [r6 m (by omega)]; exact V.2.2.2.2.2.2.2.2 m hm
/-! A state: county, year, gaoler, picks, outs. -/
abbrev ma_S : Type := ma_K × Nat × Nat × Nat × Nat
def sp_up (K : ma_K) (i k v : Nat) : ma_K := fun a b => if a = i ∧ b = k then v else K a b
theorem sp_up_s (K : ma_K) (i k v : Nat) : sp_up K i k v i k = v := if_pos ⟨rfl, rfl⟩
theorem sp_up_n {K : ma_K} {i k v a b : Nat} (h : a ≠ i ∨ b ≠ k) : sp_up K i k v a b = K a b := if_neg (fun q => by omega)
def ma_SO (S : ma_S) : Prop := ma_OK S.1 ∧ S.2.1 ≤ 99 ∧ S.2.2.1 ≤ 6 ∧ (S.2.2.1 < 6 → S.2.2.1 < S.1 0 0) ∧ ∀ k, S.1 6 k ≤ 9
/-- the developers' course has this state -/
def ma_C (h : pb_HP) (S : ma_S) : Prop := ma_V h 201 S.1 ∧ pb_I h 200 4 = nI S.2.1 ∧ pb_I h 200 5 = nI S.2.2.1 ∧ pb_I h 200 6 = nI S.2.2.2.1 ∧ pb_I h 200 7 = nI S.2.2.2.2
/-- the model has it -/
def ma_D (h : pb_HP) (S : ma_S) : Prop := ma_M h S.1 ∧ pb_I h 217 26 = nI S.2.1 ∧ pb_I h 217 27 = nI S.2.2.1 ∧ pb_I h 217 28 = nI S.2.2.2.1 ∧ pb_I h 217 29 = nI S.2.2.2.2 ∧ ∃ K0, ma_of h K0 ∧ ∀ m, S.1 1 m = K0 1 m
def sp_yr (K : ma_K) (n : Nat) : ma_K := fun i k => if i = 3 ∧ k < n then min 99 (K 3 k + 1) else if i = 4 ∧ k < n then K 4 k - 1 else K i k
/-- a deed: kind, who, trait, how much -/
abbrev ma_dd : Type := Nat × Nat × Nat × Nat
def sp_act (S : ma_S) (d : ma_dd) : Option ma_S :=
  if d.1 = 0 then (if d.2.1 < S.1 0 0 then some (sp_up S.1 2 d.2.1 (S.1 2 d.2.1 ||| 2 ^ d.2.2.1), S.2) else none)
  else if d.1 = 1 then (if d.2.1 < S.1 0 0 then some (sp_up S.1 2 d.2.1 (sp_cl (S.1 2 d.2.1) d.2.2.1), S.2) else none)
  else if d.1 = 2 then (if d.2.1 < S.1 0 1 then some (sp_up S.1 5 d.2.1 (S.1 5 d.2.1 ||| 2 ^ d.2.2.1), S.2) else none)
  else if d.1 = 3 then (if d.2.1 < S.1 0 1 then some (sp_up S.1 6 (6 * d.2.1 + d.2.2.1) (min 9 (S.1 6 (6 * d.2.1 + d.2.2.1) + d.2.2.2)), S.2) else none)
  else if d.1 = 4 then (if d.2.1 < S.1 0 1 ∧ S.2.2.1 < 6 ∧ 0 < S.1 4 d.2.1 ∧ S.1 4 d.2.1 ≤ 10 * S.1 1 S.2.2.1 then some (sp_up S.1 4 d.2.1 0, S.2.1, S.2.2.1, S.2.2.2.1, S.2.2.2.2 + 1) else none)
  else if d.1 = 5 then some (S.1, S.2.1, sp_pk S.1 (sp_to S.1) 63, S.2.2.2.1 + 1, S.2.2.2.2)
  else (if S.2.1 < 99 then some (sp_yr S.1 (S.1 0 1), S.2.1 + 1, S.2.2) else none)
/-- a deed as numbers -/
def ma_dr (d : ma_dd) (v : Nat → Int32) : Prop := v 0 = nI d.1 ∧ d.1 ≤ 6 ∧ (d.1 < 5 → v 1 = nI d.2.1 ∧ d.2.1 < 6) ∧ (d.1 < 4 → v 2 = nI d.2.2.1 ∧ d.2.2.1 < 6) ∧ (d.1 = 3 → v 3 = nI d.2.2.2 ∧ d.2.2.2 ≤ 9)
theorem ma_dr_ex {v : Nat → Int32} (h : ma_gd v) : ∃ d, ma_dr d v := by
  obtain ⟨q, h0, h1, h2, h3, h4⟩ := h
  by_cases q5 : q < 5
  · obtain ⟨a, ha, ea⟩ := h2 q5
    by_cases q4 : q < 4
    · obtain ⟨t, ht, et⟩ := h3 q4
      by_cases q3 : q = 3
      · obtain ⟨u, hu, hu2, eu⟩ := h4 q3
        exact ⟨(q, a, t, u), h0, h1, fun _ => ⟨ea, ha⟩, fun _ => ⟨et, ht⟩, fun _ => ⟨eu, hu2⟩⟩
      · exact ⟨(q, a, t, 0), h0, h1, fun _ => ⟨ea, ha⟩, fun _ => ⟨et, ht⟩, fun z => absurd z q3⟩
    · exact ⟨(q, a, 0, 0), h0, h1, fun _ => ⟨ea, ha⟩, fun z => absurd z q4, fun z => absurd z (by omega)⟩
  · exact ⟨(q, 0, 0, 0), h0, h1, fun z => absurd z q5, fun z => absurd z (by omega), fun z => absurd z (by omega)⟩
theorem ma_OK_up2 {K : ma_K} (O : ma_OK K) {a v : Nat} (ha : a < K 0 0) (hv : v < 64) : ma_OK (sp_up K 2 a v) := by
  refine ⟨O.1, O.2.1, fun k => ?_, fun m hm => ?_, O.2.2.2.2⟩
  · have := O.2.2.1 k
    refine ⟨this.1, ?_, this.2.2⟩
    by_cases e : k = a
    · rw [e, sp_up_s]; exact hv
    · rw [sp_up_n (.inr e)]; exact this.2.1
  · have hm2 : K 0 0 ≤ m := hm
    rw [sp_up_n (.inr (by omega))]; exact O.2.2.2.1 m hm2
theorem ma_OK_up5 {K : ma_K} (O : ma_OK K) {a v : Nat} (ha : a < K 0 1) (hv : v < 64) : ma_OK (sp_up K 5 a v) := by
  refine ⟨O.1, O.2.1, fun k => ?_, O.2.2.2.1, fun m hm => ?_⟩
  · have := O.2.2.1 k
    refine ⟨this.1, this.2.1, this.2.2.1, this.2.2.2.1, ?_, this.2.2.2.2.2⟩
    by_cases e : k = a
    · rw [e, sp_up_s]; exact hv
    · rw [sp_up_n (.inr e)]; exact this.2.2.2.2.1
  · have hm2 : K 0 1 ≤ m := hm
    rw [sp_up_n (.inr (by omega))]; exact O.2.2.2.2 m hm2
theorem ma_OK_up6 {K : ma_K} (O : ma_OK K) {a v : Nat} (hv : v ≤ 99) : ma_OK (sp_up K 6 a v) := by
  refine ⟨O.1, O.2.1, fun k => ?_, O.2.2.2.1, O.2.2.2.2⟩
  have := O.2.2.1 k
  refine ⟨this.1, this.2.1, this.2.2.1, this.2.2.2.1, this.2.2.2.2.1, ?_⟩
  by_cases e : k = a
  · rw [e, sp_up_s]; exact hv
  · rw [sp_up_n (.inr e)]; exact this.2.2.2.2.2
theorem ma_OK_up4 {K : ma_K} (O : ma_OK K) {a : Nat} : ma_OK (sp_up K 4 a 0) := by
  refine ⟨O.1, O.2.1, fun k => ?_, O.2.2.2.1, O.2.2.2.2⟩
  have := O.2.2.1 k
  refine ⟨this.1, this.2.1, this.2.2.1, ?_, this.2.2.2.2⟩
  by_cases e : k = a
  · rw [e, sp_up_s]; omega
  · rw [sp_up_n (.inr e)]; exact this.2.2.2.1
theorem ma_OK_yr {K : ma_K} (O : ma_OK K) (n : Nat) : ma_OK (sp_yr K n) := by
  refine ⟨O.1, O.2.1, fun k => ?_, O.2.2.2.1, O.2.2.2.2⟩
  have := O.2.2.1 k
  refine ⟨this.1, this.2.1, ?_, ?_, this.2.2.2.2⟩
  · show (if 3 = 3 ∧ k < n then min 99 (K 3 k + 1) else if 3 = 4 ∧ k < n then K 4 k - 1 else K 3 k) ≤ 99
    split
    · omega
    · rw [if_neg (by omega)]; omega
  · show (if 4 = 3 ∧ k < n then min 99 (K 3 k + 1) else if 4 = 4 ∧ k < n then K 4 k - 1 else K 4 k) ≤ 30
    rw [if_neg (by omega)]
    split <;> omega
theorem sp_pk_men {K : ma_K} (to : Nat → Nat) (b : Nat) : sp_pk K to b < 6 → sp_pk K to b < K 0 0 := by
  have := ma_fo_inv (g := fun m a => if a.2 < sp_nv K to b m then (m, sp_nv K to b m) else a) (P := fun j a => a.1 < 6 → a.1 < j) (a0 := (6, 0)) (fun z => absurd z (by decide)) (K 0 0) (fun j a hj ha => by
    split
    · intro _; exact Nat.lt_succ_self j
    · intro z; have := ha z; omega)
  exact this
theorem ma_SO_act {S S2 : ma_S} {d : ma_dd} {v : Nat → Int32} (hd : ma_dr d v) (O : ma_SO S) (e : sp_act S d = some S2) : ma_SO S2 := by
  obtain ⟨K, y, gl, pi, ou⟩ := S
  obtain ⟨q, a, t, u⟩ := d
  obtain ⟨O1, O2, O3, O4, O5⟩ := O
  obtain ⟨d0, d1, d2, d3, d4⟩ := hd
  dsimp only at *
  unfold sp_act at e
  dsimp only at e
  by_cases q0 : q = 0
  · rw [if_pos q0] at e
    split at e
    · cases e
      exact ⟨ma_OK_up2 O1 (by assumption) (ma_or_lt (O1.2.2.1 a).2.1 (d3 (by omega)).2), O2, O3, O4, O5⟩
    · cases e
  rw [if_neg q0] at e
  by_cases q1 : q = 1
  · rw [if_pos q1] at e
    split at e
    · cases e
      exact ⟨ma_OK_up2 O1 (by assumption) (Nat.lt_of_le_of_lt (sp_cl_le _ _) (O1.2.2.1 a).2.1), O2, O3, O4, O5⟩
    · cases e
  rw [if_neg q1] at e
  by_cases q2 : q = 2
  · rw [if_pos q2] at e
    split at e
    · cases e
      exact ⟨ma_OK_up5 O1 (by assumption) (ma_or_lt (O1.2.2.1 a).2.2.2.2.1 (d3 (by omega)).2), O2, O3, O4, O5⟩
    · cases e
  rw [if_neg q2] at e
  by_cases q3 : q = 3
  · rw [if_pos q3] at e
    split at e
    · cases e
      refine ⟨ma_OK_up6 O1 (by omega), O2, O3, O4, fun k => ?_⟩
      by_cases z : k = 6 * a + t
      · rw [z]; dsimp only; rw [sp_up_s]; omega
      · dsimp only; rw [sp_up_n (.inr z)]; exact O5 k
    · cases e
  rw [if_neg q3] at e
  by_cases q4 : q = 4
  · rw [if_pos q4] at e
    split at e
    · cases e
      exact ⟨ma_OK_up4 O1, O2, O3, O4, O5⟩
    · cases e
  rw [if_neg q4] at e
  by_cases q5 : q = 5
  · rw [if_pos q5] at e
    cases e
    exact ⟨O1, O2, sp_pk_le O1 _ _, sp_pk_men _ _, O5⟩
  rw [if_neg q5] at e
  split at e
  · cases e
    refine ⟨ma_OK_yr O1 _, by dsimp only; omega, O3, O4, O5⟩
  · cases e

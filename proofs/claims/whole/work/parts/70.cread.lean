/-! text: a whole line, a whole text; the developers' reader -/
def sp_li (B : Nat → Int32) (n s i : Nat) : Nat := sp_ln B (sp_tk B n i) s
def sp_le (B : Nat → Int32) (n i : Nat) : Nat := (sp_tk B n i).2.2
def tx_lk (B : Nat → Int32) (n s i : Nat) : Bool := decide (sp_li B n s i < sp_fl (s + 1)) && (decide (sp_nb B n (sp_le B n i) (sp_nc (sp_li B n s i)) = sp_nc (sp_li B n s i)) && decide ((sp_tn B n (sp_le B n i) (sp_nc (sp_li B n s i))).1 = 3))
def sp_wr (B : Nat → Int32) (n s i : Nat) : Nat := if sp_li B n s i < sp_fl (s + 1) then (sp_tn B n (sp_le B n i) (sp_nb B n (sp_le B n i) (sp_nc (sp_li B n s i)))).2.1 else (sp_tk B n i).2.1
def tx_nx (B : Nat → Int32) (n s i : Nat) : Nat := sp_te B n (sp_le B n i) (sp_nc (sp_li B n s i) + 1)
def sp_lq (B : Nat → Int32) (n s i : Nat) (p : Nat × Nat) (D : tx_T) : Nat × Nat := if tx_fu D (sp_li B n s i) then sp_bl p 3 (sp_tk B n i).2.1 else p
def sp_lf (B : Nat → Int32) (n s i : Nat) (p : Nat × Nat) (D : tx_T) : Nat × Nat := sp_fn B n (sp_le B n i) (sp_li B n s i) (sp_lq B n s i p D) (sp_nc (sp_li B n s i))
def sp_ld (B : Nat → Int32) (n s i : Nat) (p : Nat × Nat) (D : tx_T) : tx_T := if (sp_lf B n s i p D).1 = 0 then tx_st (sp_li B n s i) (sp_vl B n (sp_le B n i)) D else D
def sp_rd (B : Nat → Int32) (n s : Nat) : Nat → Nat → Nat × Nat → tx_T → (Nat × Nat) × tx_T
  | 0, _, p, D => (p, D)
  | m + 1, i, p, D => if (sp_tk B n i).1 = 0 then (if s = 0 ∧ p.1 = 0 ∧ (D.1 0 0 < D.2.1.1 ∨ D.1 0 1 < D.2.1.2) then (4, n + 1) else p, D)
    else if tx_lk B n s i then sp_rd B n s m (tx_nx B n s i) (sp_lf B n s i p D) (sp_ld B n s i p D) else ((1, sp_wr B n s i + 1), D)
theorem sp_bl_4 {p : Nat × Nat} {f a n : Nat} (hf : f ≤ 4) (ha : a ≤ n) (h : p.1 ≤ 4 ∧ p.2 ≤ n + 1) : (sp_bl p f a).1 ≤ 4 ∧ (sp_bl p f a).2 ≤ n + 1 := by
  unfold sp_bl; split
  · dsimp only; omega
  · exact h
theorem sp_bl_0 {p : Nat × Nat} {f a : Nat} (hf : f ≠ 0) : (sp_bl p f a).1 ≠ 0 := by
  unfold sp_bl; split
  · exact hf
  · rename_i c; exact c
theorem sp_fn_s (B : Nat → Int32) (n e l : Nat) (p : Nat × Nat) (k : Nat) : sp_fn B n e l p (k + 1) = if sp_gd B n e l k then sp_fn B n e l p k else sp_bl (sp_fn B n e l p k) 2 (sp_tn B n e k).2.1 := rfl
theorem sp_fn_0 {B : Nat → Int32} {n e l : Nat} {p : Nat × Nat} : ∀ k, (sp_fn B n e l p k).1 = 0 → p.1 = 0 ∧ ∀ j, j < k → sp_gd B n e l j = true
  | 0, h => ⟨h, fun j hj => absurd hj (Nat.not_lt_zero j)⟩
  | k + 1, h => by
    rw [sp_fn_s] at h
    by_cases c : sp_gd B n e l k = true
    · rw [if_pos c] at h
      have ih := sp_fn_0 k h
      refine ⟨ih.1, fun j hj => ?_⟩
      by_cases q : j = k
      · rw [q]; exact c
      · exact ih.2 j (by omega)
    · rw [if_neg c] at h
      exact absurd h (sp_bl_0 (by decide))
theorem sp_fn_4 {B : Nat → Int32} {n e l : Nat} {p : Nat × Nat} (he : e ≤ n) (h : p.1 ≤ 4 ∧ p.2 ≤ n + 1) : ∀ k, (sp_fn B n e l p k).1 ≤ 4 ∧ (sp_fn B n e l p k).2 ≤ n + 1
  | 0 => h
  | k + 1 => by
    have ih := sp_fn_4 (B := B) (l := l) he h k
    have b := sp_tk_b (B := B) (sp_te_le (B := B) he k)
    rw [sp_fn_s]
    split
    · exact ih
    · exact sp_bl_4 (by decide) b.2.1 ih
section
variable {B : Nat → Int32} {n s i : Nat} {p : Nat × Nat} {D : tx_T}
theorem sp_le_b (hi : i ≤ n) : sp_le B n i ≤ n := (sp_tk_b (B := B) hi).2.2.1
theorem sp_lf_4 (hi : i ≤ n) (h : p.1 ≤ 4 ∧ p.2 ≤ n + 1) : (sp_lf B n s i p D).1 ≤ 4 ∧ (sp_lf B n s i p D).2 ≤ n + 1 := by
  have b := sp_tk_b (B := B) hi
  refine sp_fn_4 (sp_le_b hi) ?_ _
  unfold sp_lq; split
  · exact sp_bl_4 (by decide) b.2.1 h
  · exact h
theorem sp_lf_0 (h : (sp_lf B n s i p D).1 = 0) : p.1 = 0 ∧ tx_fu D (sp_li B n s i) = false ∧ tx_ok (sp_li B n s i) (sp_vl B n (sp_le B n i)) := by
  have := sp_fn_0 _ h
  have q := this.1
  unfold sp_lq at q
  refine ⟨?_, ?_, fun k hk => ?_⟩
  · split at q
    · exact absurd q (sp_bl_0 (by decide))
    · exact q
  · split at q
    · exact absurd q (sp_bl_0 (by decide))
    · rename_i c; simpa using c
  · have := this.2 k hk
    unfold sp_gd at this
    simpa using this
theorem tx_lk_3 : tx_lk B n s i = true ↔ sp_li B n s i < sp_fl (s + 1) ∧ sp_nb B n (sp_le B n i) (sp_nc (sp_li B n s i)) = sp_nc (sp_li B n s i) ∧ (sp_tn B n (sp_le B n i) (sp_nc (sp_li B n s i))).1 = 3 := by
  unfold tx_lk; simp
theorem tx_nx_b (hi : i ≤ n) (ht : (sp_tk B n i).1 ≠ 0) : i < tx_nx B n s i ∧ tx_nx B n s i ≤ n := by
  have b := sp_tk_b (B := B) hi
  have e := sp_le_b (B := B) hi
  have m := sp_te_m2 (B := B) e 0 (sp_nc (sp_li B n s i) + 1)
  rw [Nat.zero_add] at m
  have m : sp_le B n i ≤ tx_nx B n s i := m
  have l : tx_nx B n s i ≤ n := sp_te_le e _
  have q := b.2.2.2.2.2 ht
  have : sp_le B n i = (sp_tk B n i).2.2 := rfl
  omega
theorem sp_li_b (hs : s < 3) : sp_fl s ≤ sp_li B n s i ∧ sp_li B n s i ≤ sp_fl (s + 1) := sp_ln_b B _ hs
theorem sp_ld_G (hs : s < 3) (hl : sp_li B n s i < sp_fl (s + 1)) (G : tx_G D) : tx_G (sp_ld B n s i p D) := by
  have f := sp_fl_b hs
  unfold sp_ld
  split
  · rename_i c
    have q := sp_lf_0 c
    exact tx_st_G G (by omega) q.2.2 q.2.1
  · exact G
theorem sp_ld_2 (hs : s < 3) (h0 : s ≠ 0) (z : D.2.1 = (0, 0)) : (sp_ld B n s i p D).2.1 = (0, 0) := by
  have b := sp_li_b (B := B) (n := n) (i := i) hs
  have f : ∀ s, s < 3 → s ≠ 0 → 5 ≤ sp_fl s := by decide
  have f := f s hs h0
  unfold sp_ld
  split
  · unfold tx_st
    rw [if_neg (by omega), if_neg (by omega), if_neg (by omega), if_neg (by omega), if_neg (by omega)]
    split <;> exact z
  · exact z
theorem sp_rd_b (hs : s < 3) : ∀ m i p D, n - i < m → i ≤ n → (p.1 ≤ 4 ∧ p.2 ≤ n + 1) → tx_G D → ((sp_rd B n s m i p D).1.1 ≤ 4 ∧ (sp_rd B n s m i p D).1.2 ≤ n + 1) ∧ tx_G (sp_rd B n s m i p D).2 ∧ ((sp_rd B n s m i p D).1.1 = 0 → s = 0 → (sp_rd B n s m i p D).2.2.1.1 ≤ (sp_rd B n s m i p D).2.1 0 0 ∧ (sp_rd B n s m i p D).2.2.1.2 ≤ (sp_rd B n s m i p D).2.1 0 1)
  | 0, i, p, D, hm, _, _, _ => absurd hm (Nat.not_lt_zero _)
  | m + 1, i, p, D, hm, hi, hp, G => by
    unfold sp_rd
    have b := sp_tk_b (B := B) hi
    by_cases c : (sp_tk B n i).1 = 0
    · rw [if_pos c]
      dsimp only
      by_cases c2 : s = 0 ∧ p.1 = 0 ∧ (D.1 0 0 < D.2.1.1 ∨ D.1 0 1 < D.2.1.2)
      · rw [if_pos c2]
        exact ⟨⟨Nat.le_refl 4, Nat.le_refl _⟩, G, fun q => absurd (show (4 : Nat) = 0 from q) (by decide)⟩
      · rw [if_neg c2]
        refine ⟨hp, G, fun q h0 => ?_⟩
        rcases Nat.lt_or_ge (D.1 0 0) D.2.1.1 with z | z
        · exact absurd ⟨h0, q, .inl z⟩ c2
        · rcases Nat.lt_or_ge (D.1 0 1) D.2.1.2 with y | y
          · exact absurd ⟨h0, q, .inr y⟩ c2
          · exact ⟨z, y⟩
    · rw [if_neg c]
      by_cases c2 : tx_lk B n s i = true
      · rw [if_pos c2]
        have x := tx_nx_b (s := s) hi c
        exact sp_rd_b hs m _ _ _ (by omega) x.2 (sp_lf_4 hi hp) (sp_ld_G hs (tx_lk_3.mp c2).1 G)
      · rw [if_neg c2]
        refine ⟨⟨show (1 : Nat) ≤ 4 by decide, ?_⟩, G, fun q => absurd (show (1 : Nat) = 0 from q) (by decide)⟩
        show sp_wr B n s i + 1 ≤ n + 1
        unfold sp_wr
        split
        · have := (sp_tk_b (B := B) (sp_te_le (B := B) (sp_le_b (B := B) hi) (sp_nb B n (sp_le B n i) (sp_nc (sp_li B n s i))))).2.1
          unfold sp_tn; omega
        · omega
end
abbrev tx_la : List Nat := [163, 164, 165, 166, 167, 168, 169, 170, 171, 172, 173, 174, 175, 176, 177, 178, 179, 180, 181]
section
variable {h : pb_HP} {N n i e l s : Nat} {B : Nat → Int32} {D : tx_T} {p : Nat × Nat}
theorem c_91l (H : ma_H h) (t : pb_R h 163 5 = some 40) (d6 : pb_I h 163 6 = nI n) (dB : ∀ j, j < n → pb_I h 40 j = B j) (hB : ∀ j, j < n → (B j).toInt8.toInt32 = B j) (hn : n ≤ 600) (he : e ≤ n) (h9 : pb_I h 163 9 = nI e) (F : tx_F h p) (hp : p.1 ≤ 4 ∧ p.2 ≤ n + 1) (hl : l < 14) (n81 : ∀ k, k < 3 → pb_I h 181 k = -1) (hN : 3000 < N) : ∃ x, pb_wl (f_91_40s N 163 (nI l)) N (0, h) = some x ∧ ((∃ g, x = .inl (0, g) ∧ sp_nb B n e (sp_nc l) < sp_nc l ∧ ma_fr [163, 181] [] h g ∧ pb_I g 163 8 = nI (sp_tn B n e (sp_nb B n e (sp_nc l))).2.1) ∨ (∃ g, x = .inr g ∧ sp_nb B n e (sp_nc l) = sp_nc l ∧ ma_fr [181] [(163, 3), (163, 4), (163, 7), (163, 8), (163, 9)] h g ∧ pb_I g 163 9 = nI (sp_te B n e (sp_nc l)) ∧ tx_F g (sp_fn B n e l p (sp_nc l)) ∧ ∀ k, k < 3 → pb_I g 181 k = tx_nu (sp_vl B n e) (sp_nc l) k)) := by
  have nb := sp_nb_b B n e (sp_nc l)
  have T := sp_S3 l hl
  generalize sp_nb B n e (sp_nc l) = r at *
  have hN2 : r < N := by omega
  have com : ∀ j g, j < sp_nc l → ma_fr [181] [(163, 3), (163, 4), (163, 7), (163, 8), (163, 9)] h g → pb_I g 163 9 = nI (sp_te B n e j) → ∃ g1, f_88 N g 163 = some g1 ∧ ma_fr [] [(163, 7), (163, 8), (163, 9)] g g1 ∧ pb_I g1 163 7 = nI (sp_tn B n e j).1 ∧ pb_I g1 163 8 = nI (sp_tn B n e j).2.1 ∧ pb_I g1 163 9 = nI (sp_tn B n e j).2.2 ∧ f_91_40s N 163 (nI l) (nI j, g) = (if (pb_I g1 163 7) = 2 then ((f_95 N g1 163).bind fun r14 => (if pb_ar g1 181 12 (nI j) then ((f_96 (pb_pI g1 181 j r14) 163 (nI l) (nI j)).bind fun r16 => (if ¬ r16 = 0 then (some (.inl ((nI j + 1, pb_pI g1 181 j r14)))) else ((f_87 (pb_pI g1 181 j r14) 163 2 (pb_I (pb_pI g1 181 j r14) 163 8)).bind fun h18 => (some (.inl ((nI j + 1, h18))))))) else none)) else (some (.inr (.inl ((0, g1)))))) := fun j g hj f y9 => by
    have Hg := ma_H_fr H f
    have tg : pb_R g 163 5 = some 40 := by rw [f.2.1]; exact t
    have g6 : pb_I g 163 6 = nI n := by rw [f.2.2 163 6 (by decide) (by decide)]; exact d6
    have gB : ∀ j, j < n → pb_I g 40 j = B j := fun j hj => by rw [ma_fr_o f (by decide) (by decide)]; exact dB j hj
    obtain ⟨g1, a1, a2, a3, a4, a5⟩ := c_88 (N := N) (h := g) ⟨Hg, tg, g6, gB, y9⟩ hn (sp_te_le he j) hN
    refine ⟨g1, a1, a2, a3, a4, a5, ?_⟩
    have H1 := ma_H_fr Hg a2
    have ix : pb_in (nI l * 3 + nI j) pb_S3.length := by
      rw [lJ3, nI_add]
      exact ⟨(lA0 (by omega)).mpr trivial, by rw [nI_clamp (by omega)]; show 3 * l + j < 42; omega⟩
    have sv : pb_S3.getD (nI l * 3 + nI j).toNatClampNeg 0 = nI (tx_hi l j) := by
      rw [lJ3, nI_add, nI_clamp (by omega)]; exact ((T.2 j (by omega)).1 hj).1
    have hh := ((T.2 j (by omega)).1 hj).2
    have e3 : ¬ (3 : Int32) ≤ nI j := (not_congr (lA3 (show j < 2 ^ 31 by omega))).mpr (by omega)
    have em : ¬ nI (tx_hi l j) = -1 := fun z => (mF _ (show tx_hi l j < 2 ^ 31 by omega)).mp z
    have cj : (nI j).toNatClampNeg = j := nI_clamp (by omega)
    unfold f_91_40s
    dsimp only
    rw [if_neg e3, if_pos ix, sv, if_neg em, if_pos (mi_163 Hg), a1, Option.bind_some, if_pos (mi_163 H1), mr_163_12 H1, Option.bind_some]
    simp only [cj]
  refine ma_lh (fun j s => s.1 = nI j ∧ ma_fr [181] [(163, 3), (163, 4), (163, 7), (163, 8), (163, 9)] h s.2 ∧ pb_I s.2 163 9 = nI (sp_te B n e j) ∧ tx_F s.2 (sp_fn B n e l p j) ∧ ∀ k, k < 3 → pb_I s.2 181 k = tx_nu (sp_vl B n e) j k) _ r 0 N _ (by omega) (by omega) ⟨rfl, ma_fr_r _ _ _, h9, F, fun k hk => by rw [n81 k hk]; exact (if_neg (Nat.not_lt_zero k)).symm⟩ ?_ ?_
  · rintro j ⟨y, g⟩ _ hj ⟨hy, f, y9, Fg, n8⟩
    dsimp only at hy f y9 Fg n8
    subst hy
    left
    obtain ⟨g1, a1, a2, a3, a4, a5, a6⟩ := com j g (by omega) f y9
    have tj := nb.2.1 j hj
    have Hg := ma_H_fr H f
    have H1 := ma_H_fr Hg a2
    have vl := sp_vl_lt hB he tj
    have le := sp_te_le (B := B) he j
    have q2 := sp_tk_2 le tj
    have tb := sp_tk_b (B := B) le
    have lt := tb.2.2.2.2.2 (by show ¬ (sp_tn B n e j).1 = 0; omega)
    have t1 : pb_R g1 163 5 = some 40 := by rw [a2.2.1, f.2.1]; exact t
    have b1 : ∀ j, j < n → pb_I g1 40 j = B j := fun j hj => by rw [ma_fr_o a2 (by decide) (by decide), ma_fr_o f (by decide) (by decide)]; exact dB j hj
    have z95 : f_95 N g1 163 = some (nI (sp_vl B n e j)) := c_95 H1 t1 (show (sp_tn B n e j).2.2 ≤ 600 by unfold sp_tn; omega) a4 a5 q2.1 (by unfold sp_tn; omega) (fun x u w => ⟨b1 x (by unfold sp_tn at w; omega), q2.2 x u w, hB x (by unfold sp_tn at w; omega)⟩) hN
    have z96 : f_96 (pb_pI g1 181 j (nI (sp_vl B n e j))) 163 (nI l) (nI j) = _ := c_96 (h := pb_pI g1 181 j (nI (sp_vl B n e j))) H1 hl (k := j) (by omega) (by rw [ma_Ik, if_pos rfl, if_pos rfl]) vl
    have F2 : tx_F (pb_pI g1 181 j (nI (sp_vl B n e j))) (sp_fn B n e l p j) := by
      refine ⟨?_, ?_⟩
      · rw [ma_Ik, if_neg (by decide), a2.2.2 163 3 (by decide) (by decide)]; exact Fg.1
      · rw [ma_Ik, if_neg (by decide), a2.2.2 163 4 (by decide) (by decide)]; exact Fg.2
    have f2 : ma_fr [181] [(163, 3), (163, 4), (163, 7), (163, 8), (163, 9)] h (pb_pI g1 181 j (nI (sp_vl B n e j))) := ma_fr_pI (ma_fr_t f (ma_fr_w a2 (by decide) (by decide))) (.inl (by decide)) _
    have n2 : ∀ k, k < 3 → pb_I (pb_pI g1 181 j (nI (sp_vl B n e j))) 181 k = tx_nu (sp_vl B n e) (j + 1) k := fun k hk => by
      rw [ma_Ik, if_pos rfl]
      unfold tx_nu
      by_cases c : k = j
      · rw [if_pos c, if_pos (by omega), c]
      · rw [if_neg c, ma_fr_o a2 (by decide) (by decide), n8 k hk]
        unfold tx_nu
        by_cases c2 : k < j
        · rw [if_pos c2, if_pos (by omega)]
        · rw [if_neg c2, if_neg (by omega)]
    have e8 : pb_I (pb_pI g1 181 j (nI (sp_vl B n e j))) 163 8 = nI (sp_tn B n e j).2.1 := by rw [ma_Ik, if_neg (by decide)]; exact a4
    have e9 : pb_I (pb_pI g1 181 j (nI (sp_vl B n e j))) 163 9 = nI (sp_te B n e (j + 1)) := by rw [ma_Ik, if_neg (by decide)]; exact a5
    rw [if_pos (show pb_I g1 163 7 = 2 by rw [a3, tj]; rfl), z95, Option.bind_some, if_pos (mx_181 H1 (show j < 3 by omega)), z96, Option.bind_some] at a6
    by_cases c : sp_gd B n e l j = true
    · have c' : tx_lo l j ≤ sp_vl B n e j ∧ sp_vl B n e j ≤ tx_hi l j := by unfold sp_gd at c; simpa using c
      rw [if_pos c', if_pos (by decide)] at a6
      refine ⟨_, a6, by rw [nI_1], f2, e9, ?_, n2⟩
      rw [sp_fn_s, if_pos c]; exact F2
    · have c' : ¬ (tx_lo l j ≤ sp_vl B n e j ∧ sp_vl B n e j ≤ tx_hi l j) := fun q => c (by unfold sp_gd; simpa using q)
      obtain ⟨g3, b1, b2, b3⟩ := c_87 (h := pb_pI g1 181 j (nI (sp_vl B n e j))) H1 F2 (sp_fn_4 (B := B) (l := l) he hp j).1 2 (sp_tn B n e j).2.1
      have b1 : f_87 (pb_pI g1 181 j (nI (sp_vl B n e j))) 163 2 (nI (sp_tn B n e j).2.1) = some g3 := b1
      rw [if_neg c', if_neg (by decide), e8, b1, Option.bind_some] at a6
      refine ⟨_, a6, by rw [nI_1], ma_fr_t f2 (ma_fr_w b2 (by decide) (by decide)), ?_, ?_, fun k hk => ?_⟩
      · show pb_I g3 163 9 = _
        rw [b2.2.2 163 9 (by decide) (by decide)]; exact e9
      · rw [sp_fn_s, if_neg c]; exact b3
      · show pb_I g3 181 k = _
        rw [ma_fr_o b2 (by decide) (by decide)]; exact n2 k hk
  · rintro ⟨y, g⟩ ⟨hy, f, y9, Fg, n8⟩
    dsimp only at hy f y9 Fg n8
    subst hy
    by_cases c : r < sp_nc l
    · obtain ⟨g1, a1, a2, a3, a4, a5, a6⟩ := com r g c f y9
      have tj := nb.2.2 c
      have tb := sp_tk_b (B := B) (sp_te_le (B := B) he r)
      rw [if_neg (fun z => tj ((lE2 (show (sp_tn B n e r).1 < 2 ^ 31 by unfold sp_tn; omega)).mp (a3.symm.trans z)))] at a6
      exact ⟨_, a6, .inl ⟨g1, rfl, c, ma_fr_t (ma_fr_w f (by decide) (by decide)) (ma_fr_w a2 (by decide) (by decide)), a4⟩⟩
    · have er : r = sp_nc l := by omega
      subst er
      refine ⟨_, ?_, .inr ⟨g, rfl, rfl, f, y9, Fg, n8⟩⟩
      unfold f_91_40s
      dsimp only
      by_cases c3 : sp_nc l = 3
      · rw [if_pos ((lA3 (show sp_nc l < 2 ^ 31 by omega)).mpr (by omega))]
      · have ix : pb_in (nI l * 3 + nI (sp_nc l)) pb_S3.length := by
          rw [lJ3, nI_add]
          exact ⟨(lA0 (by omega)).mpr trivial, by rw [nI_clamp (by omega)]; show 3 * l + sp_nc l < 42; omega⟩
        have sv : pb_S3.getD (nI l * 3 + nI (sp_nc l)).toNatClampNeg 0 = -1 := by
          rw [lJ3, nI_add, nI_clamp (by omega)]; exact (T.2 (sp_nc l) (by omega)).2 rfl
        rw [if_neg ((not_congr (lA3 (show sp_nc l < 2 ^ 31 by omega))).mpr (by omega)), if_pos ix, if_pos sv]
theorem c_91a (H : ma_H h) (t : pb_R h 163 5 = some 40) (d6 : pb_I h 163 6 = nI n) (dB : ∀ j, j < n → pb_I h 40 j = B j) (hB : ∀ j, j < n → (B j).toInt8.toInt32 = B j) (hn : n ≤ 600) (he : e ≤ n) (h9 : pb_I h 163 9 = nI e) (F : tx_F h p) (hp : p.1 ≤ 4 ∧ p.2 ≤ n + 1) (hl : l < 14) (C : tx_C h D) (G : tx_G D) (nf : p.1 = 0 → tx_fu D l = false) (hN : 3000 < N) : ∃ r g, f_91_30 N h 163 (nI l) = some (r, g) ∧ ma_fr tx_la [] h g ∧ ((sp_nb B n e (sp_nc l) = sp_nc l ∧ (sp_tn B n e (sp_nc l)).1 = 3 ∧ r = 1 ∧ pb_I g 163 6 = nI n ∧ pb_I g 163 9 = nI (sp_te B n e (sp_nc l + 1)) ∧ tx_F g (sp_fn B n e l p (sp_nc l)) ∧ tx_C g (if (sp_fn B n e l p (sp_nc l)).1 = 0 then tx_st l (sp_vl B n e) D else D)) ∨ (¬ (sp_nb B n e (sp_nc l) = sp_nc l ∧ (sp_tn B n e (sp_nc l)).1 = 3) ∧ r = 0 ∧ pb_I g 163 8 = nI (sp_tn B n e (sp_nb B n e (sp_nc l))).2.1)) := by
  obtain ⟨g0, z1, z2, z3⟩ := c_306 (N := N) (h := h) (o := 181) (n := 3) H.1 (by decide) (by decide) (by decide) (-1) hN
  have H0 := ma_H_fr H z2
  have k0 : ∀ k, pb_I g0 163 k = pb_I h 163 k := fun k => congrFun (ma_fr_o z2 (by decide) (by decide)) k
  have C0 : tx_C g0 D := tx_C_e C (fun o a b => ma_fr_o z2 (by simp; omega) (by simp)) (k0 10) (k0 11)
  obtain ⟨x, w1, w2⟩ := c_91l (N := N) (h := g0) (l := l) (e := e) (p := p) H0 (by rw [z2.2.1]; exact t) (by rw [k0]; exact d6) (fun j hj => by rw [ma_fr_o z2 (by decide) (by decide)]; exact dB j hj) hB hn he (by rw [k0]; exact h9) ⟨by rw [k0]; exact F.1, by rw [k0]; exact F.2⟩ hp hl z3 hN
  unfold f_91_30
  rw [if_pos (mi_163 H), mr_163_12 H, Option.bind_some, z1, Option.bind_some, w1, Option.bind_some]
  rcases w2 with ⟨g, rfl, u1, u2, u3⟩ | ⟨g, rfl, u1, u2, u3, u4, u5⟩
  · dsimp only
    refine ⟨0, g, rfl, ma_fr_t (ma_fr_w z2 (by decide) (by decide)) (ma_fr_w u2 (by decide) (by decide)), .inr ⟨fun q => ?_, rfl, u3⟩⟩
    omega
  · dsimp only
    have Hg := ma_H_fr H0 u2
    have tg : pb_R g 163 5 = some 40 := by rw [u2.2.1, z2.2.1]; exact t
    have g6 : pb_I g 163 6 = nI n := by rw [u2.2.2 163 6 (by decide) (by decide), k0]; exact d6
    have gB : ∀ j, j < n → pb_I g 40 j = B j := fun j hj => by rw [ma_fr_o u2 (by decide) (by decide), ma_fr_o z2 (by decide) (by decide)]; exact dB j hj
    obtain ⟨g1, a1, a2, a3, a4, a5⟩ := c_88 (N := N) (h := g) ⟨Hg, tg, g6, gB, u3⟩ hn (sp_te_le he _) hN
    have H1 := ma_H_fr Hg a2
    have tb := sp_tk_b (B := B) (sp_te_le (B := B) he (sp_nc l))
    have fr : ma_fr tx_la [] h g1 := ma_fr_t (ma_fr_t (ma_fr_w z2 (by decide) (by decide)) (ma_fr_w u2 (by decide) (by decide))) (ma_fr_w a2 (by decide) (by decide))
    have F1 : tx_F g1 (sp_fn B n e l p (sp_nc l)) := ⟨by rw [a2.2.2 163 3 (by decide) (by decide)]; exact u4.1, by rw [a2.2.2 163 4 (by decide) (by decide)]; exact u4.2⟩
    have C1 : tx_C g1 D := tx_C_e C0 (fun o a b => by rw [ma_fr_o a2 (by simp) (by simp; omega), ma_fr_o u2 (by simp; omega) (by simp; omega)]) (by rw [a2.2.2 163 10 (by decide) (by decide), u2.2.2 163 10 (by decide) (by decide)]) (by rw [a2.2.2 163 11 (by decide) (by decide), u2.2.2 163 11 (by decide) (by decide)])
    have b6 : pb_I g1 163 6 = nI n := by rw [a2.2.2 163 6 (by decide) (by decide)]; exact g6
    unfold f_91_106
    rw [if_pos (mi_163 Hg), a1, Option.bind_some, if_pos (mi_163 H1), a3]
    have a5 : pb_I g1 163 9 = nI (sp_te B n e (sp_nc l + 1)) := a5
    by_cases c3 : (sp_tn B n e (sp_nc l)).1 = 3
    · rw [if_pos (show nI (sp_tk B n (sp_te B n e (sp_nc l))).1 = 3 by have : (sp_tk B n (sp_te B n e (sp_nc l))).1 = 3 := c3; rw [this]; rfl), F1.1]
      have p4 := (sp_fn_4 (B := B) (l := l) he hp (sp_nc l)).1
      by_cases c0 : (sp_fn B n e l p (sp_nc l)).1 = 0
      · rw [if_neg (not_not_intro (show nI (sp_fn B n e l p (sp_nc l)).1 = 0 by rw [c0]; rfl)), if_pos c0]
        have q := sp_fn_0 _ c0
        obtain ⟨g2, y1, y2, y3⟩ := c_97 (h := g1) (v := sp_vl B n e) H1 C1 G hl (fun k hk => by rw [ma_fr_o a2 (by decide) (by decide)]; exact u5 k hk) (fun k hk => by have := q.2 k hk; unfold sp_gd at this; simpa using this) (nf q.1)
        rw [y1, Option.bind_some]
        refine ⟨1, g2, rfl, ma_fr_t fr (ma_fr_w y2 (by decide) (by decide)), .inl ⟨u1, c3, rfl, ?_, ?_, ⟨?_, ?_⟩, y3⟩⟩
        · rw [y2.2.2 163 6 (by decide) (by decide)]; exact b6
        · rw [y2.2.2 163 9 (by decide) (by decide)]; exact a5
        · rw [y2.2.2 163 3 (by decide) (by decide)]; exact F1.1
        · rw [y2.2.2 163 4 (by decide) (by decide)]; exact F1.2
      · rw [if_pos (fun z => c0 ((lE0 (show (sp_fn B n e l p (sp_nc l)).1 < 2 ^ 31 by omega)).mp z)), if_neg c0]
        exact ⟨1, g1, rfl, fr, .inl ⟨u1, c3, rfl, b6, a5, F1, C1⟩⟩
    · rw [if_neg (fun z => c3 ((lE3 (show (sp_tk B n (sp_te B n e (sp_nc l))).1 < 2 ^ 31 by omega)).mp z))]
      refine ⟨0, g1, rfl, fr, .inr ⟨fun q => c3 q.2, rfl, ?_⟩⟩
      rw [u1]; exact a4
theorem c_91 (H : ma_H h) (t : pb_R h 163 5 = some 40) (d6 : pb_I h 163 6 = nI n) (dB : ∀ j, j < n → pb_I h 40 j = B j) (hB : ∀ j, j < n → (B j).toInt8.toInt32 = B j) (hn : n ≤ 600) (hi : i ≤ n) (h7 : pb_I h 163 7 = nI (sp_tk B n i).1) (h8 : pb_I h 163 8 = nI (sp_tk B n i).2.1) (h9 : pb_I h 163 9 = nI (sp_tk B n i).2.2) (F : tx_F h p) (hp : p.1 ≤ 4 ∧ p.2 ≤ n + 1) (C : tx_C h D) (G : tx_G D) (hs : s < 3) (hN : 3000 < N) : ∃ r g, f_91 N h 163 (nI s) = some (r, g) ∧ ma_fr tx_la [] h g ∧ ((tx_lk B n s i = true ∧ r = 1 ∧ pb_I g 163 6 = nI n ∧ pb_I g 163 9 = nI (tx_nx B n s i) ∧ tx_F g (sp_lf B n s i p D) ∧ tx_C g (sp_ld B n s i p D)) ∨ (tx_lk B n s i = false ∧ r = 0 ∧ pb_I g 163 8 = nI (sp_wr B n s i))) := by
  have z := c_92 (N := N) H t dB hn h7 h8 h9 hi hs hN
  have tb := sp_tk_b (B := B) hi
  have f := sp_fl_b hs
  have z : f_92 N h 163 (nI s) = some (if sp_li B n s i < sp_fl (s + 1) then nI (sp_li B n s i) else -1) := z
  unfold f_91
  rw [if_pos (mi_163 H), z, Option.bind_some]
  by_cases c : sp_li B n s i < sp_fl (s + 1)
  · have hl : sp_li B n s i < 14 := by omega
    rw [if_pos c, if_pos (fun z => (mF _ (show sp_li B n s i < 2 ^ 31 by omega)).mp z), c_94 H C G hl, Option.bind_some]
    have fin : ∀ h' : pb_HP, ma_fr [] [(163, 3), (163, 4)] h h' → tx_F h' (sp_lq B n s i p D) → ∃ r g, f_91_30 N h' 163 (nI (sp_li B n s i)) = some (r, g) ∧ ma_fr tx_la [] h g ∧ ((tx_lk B n s i = true ∧ r = 1 ∧ pb_I g 163 6 = nI n ∧ pb_I g 163 9 = nI (tx_nx B n s i) ∧ tx_F g (sp_lf B n s i p D) ∧ tx_C g (sp_ld B n s i p D)) ∨ (tx_lk B n s i = false ∧ r = 0 ∧ pb_I g 163 8 = nI (sp_wr B n s i))) := fun h' fr F' => by
      have H' := ma_H_fr H fr
      have C' : tx_C h' D := tx_C_e C (fun o a b => ma_fr_o fr (by simp) (by simp; omega)) (fr.2.2 163 10 (by decide) (by decide)) (fr.2.2 163 11 (by decide) (by decide))
      have hq : (sp_lq B n s i p D).1 ≤ 4 ∧ (sp_lq B n s i p D).2 ≤ n + 1 := by
        unfold sp_lq; split
        · exact sp_bl_4 (by decide) tb.2.1 hp
        · exact hp
      obtain ⟨r, g, y1, y2, y3⟩ := c_91a (N := N) (h := h') (e := sp_le B n i) (p := sp_lq B n s i p D) (D := D) H' (by rw [fr.2.1]; exact t) (by rw [fr.2.2 163 6 (by decide) (by decide)]; exact d6) (fun j hj => by rw [ma_fr_o fr (by decide) (by decide)]; exact dB j hj) hB hn (sp_le_b hi) (by rw [fr.2.2 163 9 (by decide) (by decide)]; exact h9) F' hq hl C' G (fun q => by
        unfold sp_lq at q
        split at q
        · exact absurd q (sp_bl_0 (by decide))
        · rename_i c; simpa using c) hN
      refine ⟨r, g, y1, ma_fr_t (ma_fr_w fr (by decide) (by decide)) y2, ?_⟩
      rcases y3 with ⟨u1, u2, u3, u4, u5, u6, u7⟩ | ⟨u1, u2, u3⟩
      · exact .inl ⟨tx_lk_3.mpr ⟨c, u1, u2⟩, u3, u4, u5, u6, u7⟩
      · refine .inr ⟨?_, u2, ?_⟩
        · cases q : tx_lk B n s i
          · rfl
          · exact absurd (tx_lk_3.mp q).2 u1
        · unfold sp_wr; rw [if_pos c]; exact u3
    by_cases cf : tx_fu D (sp_li B n s i) = true
    · obtain ⟨h', y1, y2, y3⟩ := c_87 H F hp.1 3 (sp_tk B n i).2.1
      have y1 : f_87 h 163 3 (nI (sp_tk B n i).2.1) = some h' := y1
      rw [if_pos cf, if_neg (by decide), h8, y1, Option.bind_some]
      exact fin h' y2 (by unfold sp_lq; rw [if_pos cf]; exact y3)
    · rw [if_neg cf, if_pos rfl]
      exact fin h (ma_fr_r _ _ _) (by unfold sp_lq; rw [if_neg cf]; exact F)
  · rw [if_neg c, if_neg (not_not_intro rfl)]
    refine ⟨0, h, rfl, ma_fr_r _ _ _, .inr ⟨?_, rfl, ?_⟩⟩
    · cases q : tx_lk B n s i
      · rfl
      · exact absurd (tx_lk_3.mp q).1 c
    · unfold sp_wr; rw [if_neg c]; exact h8
end

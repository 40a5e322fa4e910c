/-! The developers' poll: counts in fours of bits. -/
def ma_cn (q : Nat → Bool) (n : Nat) : Nat := ma_fo (fun c a => if q c then a + 1 else a) n 0
theorem ma_cn_le (q : Nat → Bool) : ∀ n, ma_cn q n ≤ n
  | 0 => Nat.le_refl _
  | n + 1 => by
    have := ma_cn_le q n
    show (if q n then ma_cn q n + 1 else ma_cn q n) ≤ n + 1
    split <;> omega
theorem ma_cn_s (q : Nat → Bool) (n : Nat) : ma_cn q (n + 1) = if q n then ma_cn q n + 1 else ma_cn q n := rfl
theorem ma_cn_cong {q r : Nat → Bool} : ∀ n, (∀ c, c < n → q c = r c) → ma_cn q n = ma_cn r n
  | 0, _ => rfl
  | n + 1, h => by rw [ma_cn_s, ma_cn_s, h n (Nat.lt_succ_self n), ma_cn_cong n (fun c hc => h c (by omega))]
theorem ma_fo_ext {A : Type} {g : Nat → A → A} {a : A} {n : Nat} (h : ∀ j b, n ≤ j → g j b = b) : ∀ k, n ≤ k → ma_fo g k a = ma_fo g n a := by
  intro k hk
  induction k with
  | zero => have : n = 0 := by omega
            subst this; rfl
  | succ k ih =>
    by_cases q : n = k + 1
    · rw [q]
    · show g k (ma_fo g k a) = _
      rw [h k _ (by omega), ih (by omega)]
theorem ma_cn_ext {q : Nat → Bool} {n : Nat} (h : ∀ c, n ≤ c → q c = false) (k : Nat) (hk : n ≤ k) : ma_cn q k = ma_cn q n :=
  ma_fo_ext (fun j b hj => by rw [h j hj]; rfl) k hk
def sp_q (men : Nat) (p : Nat → Nat) (b : Nat) : Nat := (ma_fo (fun m a => if a.2 < ma_cn (fun c => b.testBit c && decide (p c = m)) 6 then (m, ma_cn (fun c => b.testBit c && decide (p c = m)) 6) else a) men (6, 0)).1
theorem sp_q_pk {K : ma_K} (O : ma_OK K) {p to : Nat → Nat} (hp : ∀ c m, c < 6 → m < 6 → (p c = m ↔ (c < K 0 1 ∧ sp_vt K c ∧ to c = m))) (b : Nat) : sp_q (K 0 0) p b = sp_pk K to b := by
  unfold sp_q sp_pk
  have hch := O.2.1
  have hmen := O.1
  have e : ∀ m, m < 6 → ma_cn (fun c => b.testBit c && decide (p c = m)) 6 = sp_nv K to b m := by
    intro m hm
    have e1 : ma_cn (fun c => b.testBit c && decide (p c = m)) 6 = ma_cn (fun c => b.testBit c && (decide (c < K 0 1) && (sp_vt K c && decide (to c = m)))) 6 := ma_cn_cong 6 (fun c hc => by
      have := hp c m hc hm
      by_cases q : p c = m
      · have := this.mp q
        simp [q, this.1, this.2.1, this.2.2]
      · have z : ¬ (c < K 0 1 ∧ sp_vt K c ∧ to c = m) := fun z => q (this.mpr z)
        simp only [q, decide_false, Bool.and_false]
        symm
        rw [Bool.and_eq_false_iff]
        right
        rw [Bool.eq_false_iff]
        intro w
        simp only [Bool.and_eq_true, decide_eq_true_eq] at w
        exact z w)
    rw [e1, ma_cn_ext (n := K 0 1) (fun c hc => by simp [Nat.not_lt.mpr hc]) 6 hch]
    refine ma_fo_cong _ (fun j a hj => ?_)
    simp only [hj, decide_true, Bool.true_and]
    by_cases t1 : b.testBit j <;> by_cases t2 : sp_vt K j <;> by_cases t3 : to j = m <;> simp [t1, t2, t3]
  congr 1
  refine ma_fo_cong _ (fun j a hj => ?_)
  rw [e j (by omega)]
def sp_pp (K : ma_K) (c : Nat) : Nat := if c < K 0 1 ∧ sp_vt K c then sp_pt K c 63 else 6
theorem sp_pp_to {K : ma_K} (c m : Nat) (hc : c < 6) (hm : m < 6) : sp_pp K c = m ↔ (c < K 0 1 ∧ sp_vt K c ∧ sp_to K c = m) := by
  unfold sp_pp sp_to
  by_cases q1 : c < K 0 1
  · by_cases q2 : sp_vt K c
    · simp [q1, q2]
    · simp [q2]; omega
  · simp [q1]; omega
def ma_pl (o : Nat) : Prop := o + 1 < 241 ∧ o ≠ 163 ∧ pb_SH o = (5, 0) ∧ pb_SH (o + 1) = (12, 6) ∧ ma_RT o 2 = some (o + 1)
def ma_P (h : pb_HP) (o men : Nat) (p : Nat → Nat) : Prop := pb_I h o 1 = nI men ∧ ∀ c, c < 6 → pb_I h (o + 1) c = nI (p c)
/-- the packed counts -/
theorem ma_pack (b : Nat) (p : Nat → Nat) (hp : ∀ c, c < 6 → p c ≤ 6) : ∀ n, n ≤ 6 → ma_fo (fun c a => if b.testBit c ∧ p c ≠ 6 then a + 2 ^ (4 * p c) else a) n 0 = ma_cn (fun c => b.testBit c && decide (p c = 0)) n + 16 * ma_cn (fun c => b.testBit c && decide (p c = 1)) n + 256 * ma_cn (fun c => b.testBit c && decide (p c = 2)) n + 4096 * ma_cn (fun c => b.testBit c && decide (p c = 3)) n + 65536 * ma_cn (fun c => b.testBit c && decide (p c = 4)) n + 1048576 * ma_cn (fun c => b.testBit c && decide (p c = 5)) n
  | 0, _ => rfl
  | n + 1, hn => by
    have ih := ma_pack b p hp n (by omega)
    have hpn := hp n (by omega)
    simp only [ma_cn_s]
    show (if b.testBit n ∧ p n ≠ 6 then ma_fo _ n 0 + 2 ^ (4 * p n) else ma_fo _ n 0) = _
    rw [ih]
    by_cases t : b.testBit n
    · have : p n = 0 ∨ p n = 1 ∨ p n = 2 ∨ p n = 3 ∨ p n = 4 ∨ p n = 5 ∨ p n = 6 := by omega
      rcases this with q | q | q | q | q | q | q <;> simp [t, q] <;> omega
    · simp [t]
theorem ma_nib (b : Nat) (p : Nat → Nat) (hp : ∀ c, c < 6 → p c ≤ 6) {m : Nat} (hm : m < 6) : ma_fo (fun c a => if b.testBit c ∧ p c ≠ 6 then a + 2 ^ (4 * p c) else a) 6 0 / 2 ^ (4 * m) % 16 = ma_cn (fun c => b.testBit c && decide (p c = m)) 6 := by
  rw [ma_pack b p hp 6 (Nat.le_refl _)]
  have h0 := ma_cn_le (fun c => b.testBit c && decide (p c = 0)) 6
  have h1 := ma_cn_le (fun c => b.testBit c && decide (p c = 1)) 6
  have h2 := ma_cn_le (fun c => b.testBit c && decide (p c = 2)) 6
  have h3 := ma_cn_le (fun c => b.testBit c && decide (p c = 3)) 6
  have h4 := ma_cn_le (fun c => b.testBit c && decide (p c = 4)) 6
  have h5 := ma_cn_le (fun c => b.testBit c && decide (p c = 5)) 6
  have : m = 0 ∨ m = 1 ∨ m = 2 ∨ m = 3 ∨ m = 4 ∨ m = 5 := by omega
  rcases this with q | q | q | q | q | q <;> subst q <;> simp only [Nat.reduceMul, Nat.reducePow] <;> omega
section
variable {h : pb_HP} {K : ma_K} {N c o : Nat}
theorem jp_is (H : ma_H h) (hc : ma_pl o) {α : Type} {a b : α} : (if pb_is h o 5 then a else b) = a := if_pos (ma_is H.1 (by have := hc.1; omega) hc.2.2.1)
theorem jp_r2 (H : ma_H h) (hc : ma_pl o) : pb_R h o 2 = some (o + 1) := by rw [H.2 o 2 (fun q => hc.2.1 q.1)]; exact hc.2.2.2.2
theorem jp_x (H : ma_H h) (hc : ma_pl o) {j : Nat} (hj : j < 6) {α : Type} {a b : α} : (if pb_ar h (o + 1) 12 (nI j) then a else b) = a := if_pos (ma_ar H.1 (by have := hc.1; omega) hc.2.2.2.1 hj (by decide))
theorem c_77 (H : ma_H h) (ho : ma_pl o) {men : Nat} (hmen : men ≤ 6) {p : Nat → Nat} (P : ma_P h o men p) (hp : ∀ c, c < 6 → p c ≤ 6) {b : Nat} (hb : b < 64) (hN : 3000 < N) : f_77 N h o (nI b) = some (nI (sp_q men p b)) := by
  have h1 : pb_wl (f_77_4s N h o (nI b)) N (0, 0) = some (nI (ma_fo (fun c a => if b.testBit c ∧ p c ≠ 6 then a + 2 ^ (4 * p c) else a) 6 0)) := by
    refine ma_lq (fun j a => (nI a, nI j)) _ 6 (by omega) rfl (fun j a hj => ?_) rfl
    have e1 : ¬ (6 : Int32) ≤ nI j := nI_ge (b := 6) hj (by decide)
    have e2 := hp j hj
    have e3 : (nI (p j) = 6) = (p j = 6) := propext (nI_eq (b := 6) (by omega) (by decide))
    have e4 : (4 : Int32) * nI (p j) = nI (4 * p j) := pk_mul 4 _
    simp only [f_77_4s, if_neg e1, ma_bit (show b < 2 ^ 31 by omega) (show j < 32 by omega), ma_b0, jp_is H ho, jp_r2 H ho, Option.bind_some, jp_x H ho hj, nI_clamp (show j < 2 ^ 31 by omega), P.2 j hj, e3, e4, nI_1]
    by_cases t1 : b.testBit j
    · by_cases t2 : p j = 6
      · simp [t1, t2]
      · simp [t1, t2, ma_shl (show 4 * p j < 31 by omega), nI_add]
    · simp [t1]
  have hlt : ma_fo (fun c a => if b.testBit c ∧ p c ≠ 6 then a + 2 ^ (4 * p c) else a) 6 0 < 2 ^ 31 := by
    rw [ma_pack b p hp 6 (Nat.le_refl _)]
    have h0 := ma_cn_le (fun c => b.testBit c && decide (p c = 0)) 6
    have h1 := ma_cn_le (fun c => b.testBit c && decide (p c = 1)) 6
    have h2 := ma_cn_le (fun c => b.testBit c && decide (p c = 2)) 6
    have h3 := ma_cn_le (fun c => b.testBit c && decide (p c = 3)) 6
    have h4 := ma_cn_le (fun c => b.testBit c && decide (p c = 4)) 6
    have h5 := ma_cn_le (fun c => b.testBit c && decide (p c = 5)) 6
    omega
  obtain ⟨X, hX⟩ : ∃ X, X = ma_fo (fun c a => if b.testBit c ∧ p c ≠ 6 then a + 2 ^ (4 * p c) else a) 6 0 := ⟨_, rfl⟩
  have hnib := fun m (hm : m < 6) => ma_nib b p hp hm
  rw [← hX] at h1 hlt hnib
  have h2 : pb_wl (f_77_57s N h o (nI X)) N (0, 6, 0) = some (nI (sp_q men p b)) := by
    refine ma_lp (fun j a => (nI a.2, nI a.1, nI j)) (fun m a => if a.2 < ma_cn (fun c => b.testBit c && decide (p c = m)) 6 then (m, ma_cn (fun c => b.testBit c && decide (p c = m)) 6) else a) (fun _ a => a.2 ≤ 6) men (a0 := (6, 0)) (by omega) (Nat.zero_le _) rfl (fun j a hj ha => ⟨?_, ?_⟩) ?_
    · split
      · exact ma_cn_le (fun c => b.testBit c && decide (p c = j)) 6
      · exact ha
    · have e1 : ¬ nI men ≤ nI j := nI_ge hj (by omega)
      have e4 : (4 : Int32) * nI j = nI (4 * j) := pk_mul 4 _
      have e5 := ma_cn_le (fun c => b.testBit c && decide (p c = j)) 6
      have e6 : nI (X / 2 ^ (4 * j)) &&& 15 = nI (ma_cn (fun c => b.testBit c && decide (p c = j)) 6) := by
        rw [← hnib j (by omega)]
        exact pk_andN (Nat.lt_of_le_of_lt (Nat.div_le_self _ _) (by omega)) 4 (by decide)
      simp only [f_77_57s, jp_is H ho, P.1, if_neg e1, e4, ma_shr hlt (show 4 * j < 32 by omega), e6, nI_1, nI_leI (show ma_cn (fun c => b.testBit c && decide (p c = j)) 6 < 2 ^ 31 by omega) (show a.2 < 2 ^ 31 by omega)]
      by_cases q : a.2 < ma_cn (fun c => b.testBit c && decide (p c = j)) 6
      · rw [if_neg (by omega), if_pos q]
      · rw [if_pos (by omega), if_neg q]
    · intro _
      have e1 : nI men ≤ nI men := nI_le (Nat.le_refl _) (by omega)
      simp only [f_77_57s, jp_is H ho, P.1, if_pos e1]
      rfl
  simp only [f_77, h1, Option.bind_some, h2]
theorem ma_V_fr {L : List Nat} {F : List (Nat × Nat)} {g : pb_HP} (V : ma_V h c K) (f : ma_fr L F h g) (h1 : ∀ o, c ≤ o → o ≤ c + 6 → o ∉ L ∧ o ∉ F.map Prod.fst) : ma_V g c K := by
  have e : ∀ o, c ≤ o → o ≤ c + 6 → pb_I g o = pb_I h o := fun o a b => ma_fr_o f (h1 o a b).1 (h1 o a b).2
  unfold ma_V
  rw [e c (by omega) (by omega), e (c + 1) (by omega) (by omega), e (c + 2) (by omega) (by omega), e (c + 3) (by omega) (by omega), e (c + 4) (by omega) (by omega), e (c + 5) (by omega) (by omega), e (c + 6) (by omega) (by omega)]
  exact V
theorem c_76 (H : ma_H h) (V : ma_V h c K) (O : ma_OK K) (ho : ma_pl o) (hd : c + 6 < o ∨ o + 1 < c) (hN : 3000 < N) : ∃ g, f_76 N h o c = some g ∧ ma_fr [o, o + 1] [] h g ∧ ma_P g o (K 0 0) (sp_pp K) ∧ pb_I g o 0 = nI (sp_vs K) := by
  have hch := O.2.1
  have hne : ∀ g, ma_fr [o, o + 1] [] h g → ma_V g c K := fun g f => ma_V_fr V f (fun p a b => ⟨by simp; omega, by simp⟩)
  have hl : ∃ e, pb_wl (f_76_15s N o c) N (0, pb_pI (pb_pI h o 0 0) o 1 (nI (K 0 0))) = some e ∧ (ma_fr [o, o + 1] [] h e ∧ ma_P e o (K 0 0) (sp_pp K) ∧ pb_I e o 0 = nI (sp_vs K)) := by
    refine ma_lh (fun j s => s.1 = nI j ∧ ma_fr [o, o + 1] [] h s.2 ∧ pb_I s.2 o 1 = nI (K 0 0) ∧ pb_I s.2 o 0 = nI (ma_fo (fun c a => if c < K 0 1 ∧ sp_vt K c then a ||| 2 ^ c else a) j 0) ∧ ∀ c, c < j → pb_I s.2 (o + 1) c = nI (sp_pp K c)) _ 6 0 N _ (by omega) (by omega) ?_ ?_ ?_
    · refine ⟨rfl, ma_fr_pI (ma_fr_pI (ma_fr_r _ _ _) (.inl (by simp)) _) (.inl (by simp)) _, ?_, ?_, fun c hc => absurd hc (Nat.not_lt_zero c)⟩
      · show pb_I (pb_pI _ o 1 _) o 1 = _
        rw [ma_I_pI, if_pos rfl, pk_us]
      · show pb_I (pb_pI (pb_pI h o 0 0) o 1 _) o 0 = _
        rw [ma_I_pI, if_pos rfl, pk_un (by decide), ma_I_pI, if_pos rfl, pk_us]
        rfl
    · rintro j ⟨i, g⟩ _ hj ⟨hi, hf, hm, hv, hp⟩
      dsimp only at hi hf hm hv hp
      subst hi
      left
      have H2 := ma_H_fr H hf
      have e1 : ¬ (6 : Int32) ≤ nI j := nI_ge (b := 6) hj (by decide)
      have f1 : ma_fr [o, o + 1] [] h (pb_pI g (o + 1) j 6) := ma_fr_pI hf (.inl (by simp)) _
      have V1 := hne _ f1
      have H3 : ma_H (pb_pI g (o + 1) j 6) := ma_H_fr H f1
      have en : ¬ o = o + 1 := by omega
      have ev : pb_I (pb_pI g (o + 1) j 6) o 0 = pb_I g o 0 := by rw [ma_I_pI, if_neg en]
      by_cases q : j < K 0 1 ∧ sp_vt K j
      · have f2 : ma_fr [o, o + 1] [] h (pb_pI (pb_pI g (o + 1) j 6) o 0 (nI (ma_fo (fun c a => if c < K 0 1 ∧ sp_vt K c then a ||| 2 ^ c else a) j 0) ||| nI (2 ^ j))) := ma_fr_pI f1 (.inl (by simp)) _
        have V2 := hne _ f2
        have H4 : ma_H (pb_pI (pb_pI g (o + 1) j 6) o 0 (nI (ma_fo (fun c a => if c < K 0 1 ∧ sp_vt K c then a ||| 2 ^ c else a) j 0) ||| nI (2 ^ j))) := ma_H_fr H f2
        have e5 := c_11 H4 V2 O (s := 63) hj (by decide) hN
        rw [show nI 63 = (63 : Int32) from rfl] at e5
        refine ⟨(nI (j + 1), pb_pI (pb_pI (pb_pI g (o + 1) j 6) o 0 (nI (ma_fo (fun c a => if c < K 0 1 ∧ sp_vt K c then a ||| 2 ^ c else a) j 0) ||| nI (2 ^ j))) (o + 1) j (nI (sp_pt K j 63))), ?_, rfl, ma_fr_pI f2 (.inl (by simp)) _, ?_, ?_, ?_⟩
        · simp only [f_76_15s, if_neg e1, jp_is H2 ho, jp_r2 H2 ho, Option.bind_some, jp_x H2 ho hj, jv_is H2 V.1, nI_clamp (show j < 2 ^ 31 by omega), c_7 H3 V1 O hj, ma_p0, q, not_true, if_false, ev, hv, ma_shl (show j < 31 by omega), e5, pb_hb, nI_1]
          simp
        · show pb_I (pb_pI (pb_pI (pb_pI g (o + 1) j 6) o 0 _) (o + 1) j _) o 1 = _
          rw [ma_I_pI, if_neg en, ma_I_pI, if_pos rfl, pk_un (by decide), ma_I_pI, if_neg en]
          exact hm
        · show pb_I (pb_pI (pb_pI (pb_pI g (o + 1) j 6) o 0 _) (o + 1) j _) o 0 = nI (if j < K 0 1 ∧ sp_vt K j then _ else _)
          rw [ma_I_pI, if_neg en, ma_I_pI, if_pos rfl, pk_us, if_pos q, fa_or]
        · intro c hc
          show pb_I (pb_pI (pb_pI (pb_pI g (o + 1) j 6) o 0 _) (o + 1) j _) (o + 1) c = _
          rw [ma_I_pI, if_pos rfl, ma_us]
          by_cases q2 : c = j
          · subst q2; rw [if_pos rfl]; unfold sp_pp; rw [if_pos q]
          · rw [if_neg q2, ma_I_pI, if_neg (by omega), ma_I_pI, if_pos rfl, pk_un q2]
            exact hp c (by omega)
      · refine ⟨(nI (j + 1), pb_pI g (o + 1) j 6), ?_, rfl, f1, ?_, ?_, ?_⟩
        · simp only [f_76_15s, if_neg e1, jp_is H2 ho, jp_r2 H2 ho, Option.bind_some, jp_x H2 ho hj, jv_is H2 V.1, nI_clamp (show j < 2 ^ 31 by omega), c_7 H3 V1 O hj, ma_p0, nI_1]
          rw [if_pos q]
        · show pb_I (pb_pI g (o + 1) j 6) o 1 = _
          rw [ma_I_pI, if_neg en]
          exact hm
        · show pb_I (pb_pI g (o + 1) j 6) o 0 = nI (if j < K 0 1 ∧ sp_vt K j then _ else _)
          rw [ma_I_pI, if_neg en, if_neg q]
          exact hv
        · intro c hc
          show pb_I (pb_pI g (o + 1) j 6) (o + 1) c = _
          rw [ma_I_pI, if_pos rfl, ma_us]
          by_cases q2 : c = j
          · subst q2; rw [if_pos rfl]; unfold sp_pp; rw [if_neg q]; rfl
          · rw [if_neg q2]
            exact hp c (by omega)
    · rintro ⟨i, g⟩ ⟨hi, hf, hm, hv, hp⟩
      dsimp only at hi hf hm hv hp
      subst hi
      refine ⟨g, rfl, hf, ⟨hm, hp⟩, ?_⟩
      rw [hv]
      congr 1
      rw [ma_fo_ext (n := K 0 1) (fun j b hj => by rw [if_neg (by omega)]) 6 hch]
      refine ma_fo_cong _ (fun j a hj => ?_)
      simp [hj]
  obtain ⟨e, h1, h2⟩ := hl
  refine ⟨e, ?_, h2⟩
  have en : ¬ c = o := by omega
  simp only [f_76, jp_is H ho, jv_is H V.1, ma_I_pI, if_neg en, V.2.1, h1, Option.bind_some]
end

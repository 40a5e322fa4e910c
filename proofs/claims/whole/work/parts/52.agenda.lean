/-! agenda -/
def sp_ch (n A : Nat) (T : Nat → Nat → Nat) : Prop := A < 720 ∧ (∀ k, k < 6 → T 0 k = k) ∧ (∀ j, j ≤ A → ∀ k, k < n → T j k < n) ∧ (∀ j, j < A → sp_gi (T j) (n - 1) ≠ 0 ∧ ∀ k, k < 6 → sp_np (T j) n (sp_gi (T j) (n - 1) - 1) k = T (j + 1) k) ∧ sp_gi (T A) (n - 1) = 0
theorem sp_ckD (n : Nat) : ∀ (l : List Nat) (a : Nat), sp_ck n a l = true → (∀ j, j ≤ l.length → ∀ k, k < n → sp_cd ((a :: l).getD j 0) k < n) ∧ (∀ j, j < l.length → sp_gi (sp_cd ((a :: l).getD j 0)) (n - 1) ≠ 0 ∧ ∀ k, k < 6 → sp_np (sp_cd ((a :: l).getD j 0)) n (sp_gi (sp_cd ((a :: l).getD j 0)) (n - 1) - 1) k = sp_cd ((a :: l).getD (j + 1) 0) k) ∧ sp_gi (sp_cd ((a :: l).getD l.length 0)) (n - 1) = 0
  | [], a, h => by
    unfold sp_ck at h
    rw [Bool.and_eq_true, List.all_eq_true, decide_eq_true_eq] at h
    refine ⟨fun j hj k hk => ?_, fun j hj => absurd hj (Nat.not_lt_zero j), h.2⟩
    have : j = 0 := Nat.le_zero.mp hj
    subst this
    exact of_decide_eq_true (h.1 k (List.mem_range.mpr hk))
  | b :: r, a, h => by
    unfold sp_ck at h
    rw [Bool.and_eq_true, Bool.and_eq_true, Bool.and_eq_true, List.all_eq_true, List.all_eq_true] at h
    obtain ⟨⟨⟨h1, h2⟩, h3⟩, h4⟩ := h
    obtain ⟨i1, i2, i3⟩ := sp_ckD n r b h4
    refine ⟨fun j hj k hk => ?_, fun j hj => ?_, i3⟩
    · cases j with
      | zero => exact of_decide_eq_true (h1 k (List.mem_range.mpr hk))
      | succ j => exact i1 j (Nat.le_of_succ_le_succ hj) k hk
    · cases j with
      | zero => exact ⟨fun z => (by
          have z : sp_gi (sp_cd a) (n - 1) = 0 := z
          rw [z] at h2; exact absurd h2 (by decide)), fun k hk => of_decide_eq_true (h3 k (List.mem_range.mpr hk))⟩
      | succ j => exact i2 j (Nat.lt_of_succ_lt_succ hj)
theorem sp_chE (n a : Nat) (l : List Nat) (h : sp_ck n a l = true) (hl : l.length < 720) (ha : ∀ k : Fin 6, sp_cd a k.val = k.val) : ∃ A T, sp_ch n A T := by
  obtain ⟨i1, i2, i3⟩ := sp_ckD n l a h
  exact ⟨l.length, fun j => sp_cd ((a :: l).getD j 0), hl, fun k hk => ha ⟨k, hk⟩, i1, i2, i3⟩
theorem sp_chX {n : Nat} (h1 : 1 ≤ n) (h6 : n ≤ 6) : ∃ A T, sp_ch n A T := by
  have : n = 1 ∨ n = 2 ∨ n = 3 ∨ n = 4 ∨ n = 5 ∨ n = 6 := by omega
  rcases this with rfl | rfl | rfl | rfl | rfl | rfl
  · exact sp_chE 1 181896 _ sp_ol_1 (by decide +kernel) (by decide)
  · exact sp_chE 2 181896 _ sp_ol_2 (by decide +kernel) (by decide)
  · exact sp_chE 3 181896 _ sp_ol_3 (by decide +kernel) (by decide)
  · exact sp_chE 4 181896 _ sp_ol_4 (by decide +kernel) (by decide)
  · exact sp_chE 5 181896 _ sp_ol_5 (by decide +kernel) (by decide)
  · exact sp_chE 6 181896 _ sp_ol_6 (by decide +kernel) (by decide)
theorem sp_gi_p (p : Nat → Nat) : ∀ k, sp_gi p k = 0 ∨ ∃ i, sp_gi p k = i + 1 ∧ i + 1 ≤ k ∧ p i ≤ p (i + 1)
  | 0 => .inl rfl
  | k + 1 => by
    unfold sp_gi
    by_cases c : p k ≤ p (k + 1)
    · rw [if_pos c]; exact .inr ⟨k, rfl, Nat.le_refl _, c⟩
    · rw [if_neg c]
      rcases sp_gi_p p k with e | ⟨i, e1, e2, e3⟩
      · exact .inl e
      · exact .inr ⟨i, e1, by omega, e3⟩
theorem sp_gj_le (p : Nat → Nat) (i : Nat) : ∀ k, sp_gj p i k ≤ k
  | 0 => Nat.le_refl _
  | k + 1 => by
    have := sp_gj_le p i k
    unfold sp_gj
    split <;> omega
def ma_pm (h : pb_HP) (o : Nat) (p : Nat → Nat) : Prop := ∀ k, k < 6 → pb_I h o k = nI (p k)
def sp_ag (W : Nat → Nat → Nat) (n : Nat) (p : Nat → Nat) : Nat := ma_fo (fun j w => if W w (p (j + 1)) < W (p (j + 1)) w then p (j + 1) else w) (n - 1) (p 0)
theorem sp_ag_lt {W : Nat → Nat → Nat} {n : Nat} {p : Nat → Nat} (h1 : 1 ≤ n) (hp : ∀ k, k < n → p k < n) : sp_ag W n p < n := ma_fo_inv (g := fun j w => if W w (p (j + 1)) < W (p (j + 1)) w then p (j + 1) else w) (P := fun _ w => w < n) (a0 := p 0) (hp 0 (by omega)) (n - 1) (fun j a hj ha => by
  have := hp (j + 1) (by omega)
  split <;> assumption)
theorem ma_m1 (k : Nat) : nI k + (-1) = mI k := (Int32.sub_eq_add_neg _ _).symm
theorem ma_m2 {n : Nat} (h1 : 1 ≤ n) (h6 : n ≤ 6) : nI n - 2 = mI (n - 1) := by
  have : ∀ n : Fin 6, nI (n.val + 1) - 2 = mI n.val := by decide
  have := this ⟨n - 1, by omega⟩
  dsimp only at this
  rw [show n - 1 + 1 = n by omega] at this
  exact this
/-- the first that serves, if one does -/
theorem ma_first (F : Nat → Prop) (A : Nat) : ∃ J, ((J ≤ A ∧ F J) ∨ J = A + 1) ∧ ∀ k, k < J → ¬ F k := by
  have : ∀ m, (∃ J, J < m ∧ F J ∧ ∀ k, k < J → ¬ F k) ∨ ∀ k, k < m → ¬ F k := fun m => by
    induction m with
    | zero => exact .inr (fun k hk => absurd hk (Nat.not_lt_zero k))
    | succ m ih =>
      rcases ih with ⟨J, a, b, c⟩ | ih
      · exact .inl ⟨J, by omega, b, c⟩
      · by_cases q : F m
        · exact .inl ⟨m, Nat.lt_succ_self m, q, ih⟩
        · refine .inr (fun k hk => ?_)
          by_cases e : k = m
          · rw [e]; exact q
          · exact ih k (by omega)
  rcases this (A + 1) with ⟨J, a, b, c⟩ | c
  · exact ⟨J, .inl ⟨by omega, b⟩, c⟩
  · exact ⟨A + 1, .inr rfl, c⟩
section
variable {h : pb_HP} {N n : Nat} {p : Nat → Nat}
theorem ca_gi (H : ma_H h) (q : ma_pm h 195 p) (hn : n ≤ 6) (hp : ∀ k, k < n → p k < n) : ∀ k N', k + 1 ≤ n → k < N' → pb_wl (f_57_7s N h 194) N' (mI k) = some (mI (sp_gi p k))
  | k, 0, _, z => absurd z (Nat.not_lt_zero k)
  | 0, N' + 1, _, _ => by
    have e : f_57_7s N h 194 (mI 0) = some (.inr (mI 0)) := by simp only [f_57_7s, if_pos (show mI 0 < 0 by decide)]
    unfold pb_wl
    rw [e]
    rfl
  | k + 1, N' + 1, h1, h2 => by
    have p1 := hp k (by omega)
    have p2 := hp (k + 1) (by omega)
    have st : f_57_7s N h 194 (mI (k + 1)) = if p k ≤ p (k + 1) then some (.inr (nI k)) else some (.inl (mI k)) := by
      have n0 : ¬ nI k < 0 := fun z => (lD0 (show k < 2 ^ 31 by omega)).mp z
      have le : (nI (p k) ≤ nI (p (k + 1))) = (p k ≤ p (k + 1)) := propext (nI_leI (by omega) (by omega))
      rw [mI_s]
      simp only [f_57_7s, if_neg n0, if_pos (mi_194 H), mr_194_0 H, Option.bind_some, if_pos (mx_195 H (show k < 6 by omega)), nI_1, if_pos (mx_195 H (show k + 1 < 6 by omega)), nI_clamp (show k < 2 ^ 31 by omega), nI_clamp (show k + 1 < 2 ^ 31 by omega), q k (by omega), q (k + 1) (by omega), le, ma_m1]
    unfold pb_wl
    rw [st]
    unfold sp_gi
    by_cases c : p k ≤ p (k + 1)
    · rw [if_pos c, if_pos c, mI_s]
    · rw [if_neg c, if_neg c]
      exact ca_gi H q hn hp k N' (by omega) (by omega)
theorem ca_gj (H : ma_H h) (q : ma_pm h 195 p) (hn : n ≤ 6) (hp : ∀ k, k < n → p k < n) {i : Nat} (hi : p i ≤ p (i + 1)) : ∀ k N', i < k → k + 1 ≤ n → k < N' → pb_wl (f_57_47s N h 194 (nI i)) N' (nI k) = some (nI (sp_gj p i k))
  | k, 0, _, _, z => absurd z (Nat.not_lt_zero k)
  | 0, _ + 1, z, _, _ => absurd z (Nat.not_lt_zero i)
  | k + 1, N' + 1, h0, h1, h2 => by
    have p1 := hp i (by omega)
    have p2 := hp (k + 1) (by omega)
    have st : f_57_47s N h 194 (nI i) (nI (k + 1)) = if p i ≤ p (k + 1) then some (.inr (nI (k + 1))) else some (.inl (nI k)) := by
      have n0 : ¬ nI (k + 1) ≤ nI i := nI_ge h0 (by omega)
      have le : (nI (p i) ≤ nI (p (k + 1))) = (p i ≤ p (k + 1)) := propext (nI_leI (by omega) (by omega))
      simp only [f_57_47s, if_neg n0, if_pos (mi_194 H), mr_194_0 H, Option.bind_some, if_pos (mx_195 H (show i < 6 by omega)), if_pos (mx_195 H (show k + 1 < 6 by omega)), nI_clamp (show i < 2 ^ 31 by omega), nI_clamp (show k + 1 < 2 ^ 31 by omega), q i (by omega), q (k + 1) (by omega), le, pk_m1]
    unfold pb_wl
    rw [st]
    unfold sp_gj
    by_cases c : p i ≤ p (k + 1)
    · rw [if_pos c, if_pos c]
    · rw [if_neg c, if_neg c]
      have : k ≠ i := fun z => c (z ▸ hi)
      exact ca_gj H q hn hp hi k N' (by omega) (by omega) (by omega)
theorem ca_sp {h : pb_HP} {p : Nat → Nat} (H : ma_H h) (q : ma_pm h 195 p) {a b : Nat} (ha : a < 6) (hb : b < 6) : ∃ g, f_58 h 194 (nI a) (nI b) = some g ∧ ma_fr [195] [] h g ∧ ma_pm g 195 (sp_sp p a b) := by
  refine ⟨pb_pI (pb_pI h 195 a (nI (p b))) 195 b (nI (p a)), ?_, ma_fr_pI (ma_fr_pI (ma_fr_r _ _ _) (.inl (by decide)) _) (.inl (by decide)) _, fun k hk => ?_⟩
  · simp only [f_58, if_pos (mi_194 H), mr_194_0 H, Option.bind_some, if_pos (mx_195 H ha), if_pos (mx_195 H hb), nI_clamp (show a < 2 ^ 31 by omega), nI_clamp (show b < 2 ^ 31 by omega), q a ha, q b hb]
  · rw [ma_Ik, if_pos rfl]
    unfold sp_sp
    by_cases e : k = b
    · rw [if_pos e, if_pos e]
    · rw [if_neg e, if_neg e, ma_Ik, if_pos rfl]
      by_cases e2 : k = a
      · rw [if_pos e2, if_pos e2]
      · rw [if_neg e2, if_neg e2]; exact q k hk
theorem ca_rv : ∀ (f : Nat) (p : Nat → Nat) (h : pb_HP) (a b N' : Nat), ma_H h → ma_pm h 195 p → a ≤ 6 → b < 6 → b ≤ a + f → f < N' → ∃ g, pb_wl (f_57_91s N 194) N' (nI a, nI b, h) = some g ∧ ma_fr [195] [] h g ∧ ma_pm g 195 (sp_rv f p a b)
  | f, _, _, _, _, 0, _, _, _, _, _, z => absurd z (Nat.not_lt_zero f)
  | 0, p, h, a, b, N' + 1, H, q, ha, hb, hf, _ => by
    have st : f_57_91s N 194 (nI a, nI b, h) = some (.inr h) := by simp only [f_57_91s, if_pos (nI_le (show b ≤ a by omega) (show a < 2 ^ 31 by omega))]
    refine ⟨h, ?_, ma_fr_r _ _ _, q⟩
    unfold pb_wl
    rw [st]
  | f + 1, p, h, a, b, N' + 1, H, q, ha, hb, hf, hN' => by
    unfold sp_rv
    by_cases c : b ≤ a
    · have st : f_57_91s N 194 (nI a, nI b, h) = some (.inr h) := by simp only [f_57_91s, if_pos (nI_le c (show a < 2 ^ 31 by omega))]
      rw [if_pos c]
      refine ⟨h, ?_, ma_fr_r _ _ _, q⟩
      unfold pb_wl
      rw [st]
    · rw [if_neg c]
      obtain ⟨g, s1, s2, s3⟩ := ca_sp H q (show a < 6 by omega) hb
      have e2 : nI b + (-1) = nI (b - 1) := by
        rw [show b = (b - 1) + 1 by omega]; exact pk_m1 _
      have st : f_57_91s N 194 (nI a, nI b, h) = some (.inl (nI (a + 1), nI (b - 1), g)) := by
        simp only [f_57_91s, if_neg (nI_ge (show a < b by omega) (show b < 2 ^ 31 by omega)), if_pos (mi_194 H), s1, Option.bind_some, nI_1, e2]
      obtain ⟨g2, t1, t2, t3⟩ := ca_rv f (sp_sp p a b) g (a + 1) (b - 1) N' (ma_H_fr H s2) s3 (by omega) (by omega) (by omega) (by omega)
      refine ⟨g2, ?_, ma_fr_t s2 t2, t3⟩
      unfold pb_wl
      rw [st]
      exact t1
theorem ca_nx (H : ma_H h) (q : ma_pm h 195 p) (hn1 : 1 ≤ n) (hn : n ≤ 6) (hp : ∀ k, k < n → p k < n) (e : pb_I h 194 1 = nI n) (hN : 3000 < N) : (sp_gi p (n - 1) = 0 → f_57 N h 194 = some (0, h)) ∧ (sp_gi p (n - 1) ≠ 0 → ∃ g, f_57 N h 194 = some (1, g) ∧ ma_fr [195] [] h g ∧ ma_pm g 195 (sp_np p n (sp_gi p (n - 1) - 1))) := by
  have l7 := ca_gi (N := N) H q hn hp (n - 1) N (by omega) (by omega)
  rw [← ma_m2 hn1 hn] at l7
  constructor
  · intro z
    rw [z] at l7
    simp only [f_57, f_57_34, if_pos (mi_194 H), e, l7, Option.bind_some, if_neg (show ¬ 0 ≤ mI 0 by decide)]
  · intro z
    rcases sp_gi_p p (n - 1) with z0 | ⟨i, z1, z2, z3⟩
    · exact absurd z0 z
    · rw [z1, mI_s] at l7
      rw [z1, Nat.add_sub_cancel]
      have l47 := ca_gj (N := N) H q hn hp z3 (n - 1) N (by omega) (by omega) (by omega)
      have jb := sp_gj_le p i (n - 1)
      obtain ⟨g1, s1, s2, s3⟩ := ca_sp H q (show i < 6 by omega) (show sp_gj p i (n - 1) < 6 by omega)
      have H1 := ma_H_fr H s2
      obtain ⟨g2, t1, t2, t3⟩ := ca_rv (N := N) 6 _ g1 (i + 1) (n - 1) N H1 s3 (by omega) (by omega) (by omega) (by omega)
      have e1 : pb_I g1 194 1 = nI n := by rw [ma_fr_o s2 (by decide) (by decide)]; exact e
      have nn : nI n - 1 = nI (n - 1) := lK1 hn1
      refine ⟨g2, ?_, ma_fr_t s2 t2, t3⟩
      have ge : (0 : Int32) ≤ nI i := (lA0 (show i < 2 ^ 31 by omega)).mpr trivial
      simp only [f_57, f_57_34, f_57_73, if_pos (mi_194 H), e, l7, Option.bind_some, if_pos ge, nn, l47, s1, if_pos (mi_194 H1), e1, nI_1, t1]

theorem mb_gi (H : ma_H h) (q : ma_pm h 236 p) (hn : n ≤ 6) (hp : ∀ k, k < n → p k < n) : ∀ k N', k + 1 ≤ n → k < N' → pb_wl (f_282_7s N h 217) N' (mI k) = some (mI (sp_gi p k))
  | k, 0, _, z => absurd z (Nat.not_lt_zero k)
  | 0, N' + 1, _, _ => by
    have e : f_282_7s N h 217 (mI 0) = some (.inr (mI 0)) := by simp only [f_282_7s, if_pos (show mI 0 < 0 by decide)]
    unfold pb_wl
    rw [e]
    rfl
  | k + 1, N' + 1, h1, h2 => by
    have p1 := hp k (by omega)
    have p2 := hp (k + 1) (by omega)
    have st : f_282_7s N h 217 (mI (k + 1)) = if p k ≤ p (k + 1) then some (.inr (nI k)) else some (.inl (mI k)) := by
      have n0 : ¬ nI k < 0 := fun z => (lD0 (show k < 2 ^ 31 by omega)).mp z
      have le : (nI (p k) ≤ nI (p (k + 1))) = (p k ≤ p (k + 1)) := propext (nI_leI (by omega) (by omega))
      rw [mI_s]
      simp only [f_282_7s, if_neg n0, if_pos (mi_217 H), mr_217_43 H, Option.bind_some, if_pos (mx_236 H (show k < 6 by omega)), nI_1, if_pos (mx_236 H (show k + 1 < 6 by omega)), nI_clamp (show k < 2 ^ 31 by omega), nI_clamp (show k + 1 < 2 ^ 31 by omega), q k (by omega), q (k + 1) (by omega), le, ma_m1]
    unfold pb_wl
    rw [st]
    unfold sp_gi
    by_cases c : p k ≤ p (k + 1)
    · rw [if_pos c, if_pos c, mI_s]
    · rw [if_neg c, if_neg c]
      exact mb_gi H q hn hp k N' (by omega) (by omega)
theorem mb_gj (H : ma_H h) (q : ma_pm h 236 p) (hn : n ≤ 6) (hp : ∀ k, k < n → p k < n) {i : Nat} (hi : p i ≤ p (i + 1)) : ∀ k N', i < k → k + 1 ≤ n → k < N' → pb_wl (f_282_47s N h 217 (nI i)) N' (nI k) = some (nI (sp_gj p i k))
  | k, 0, _, _, z => absurd z (Nat.not_lt_zero k)
  | 0, _ + 1, z, _, _ => absurd z (Nat.not_lt_zero i)
  | k + 1, N' + 1, h0, h1, h2 => by
    have p1 := hp i (by omega)
    have p2 := hp (k + 1) (by omega)
    have st : f_282_47s N h 217 (nI i) (nI (k + 1)) = if p i ≤ p (k + 1) then some (.inr (nI (k + 1))) else some (.inl (nI k)) := by
      have n0 : ¬ nI (k + 1) ≤ nI i := nI_ge h0 (by omega)
      have le : (nI (p i) ≤ nI (p (k + 1))) = (p i ≤ p (k + 1)) := propext (nI_leI (by omega) (by omega))
      simp only [f_282_47s, if_pos (mi_217 H), mr_217_43 H, Option.bind_some, if_pos (mx_236 H (show i < 6 by omega)), if_pos (mx_236 H (show k + 1 < 6 by omega)), nI_clamp (show i < 2 ^ 31 by omega), nI_clamp (show k + 1 < 2 ^ 31 by omega), q i (by omega), q (k + 1) (by omega), le, pk_m1]
    unfold pb_wl
    rw [st]
    unfold sp_gj
    by_cases c : p i ≤ p (k + 1)
    · rw [if_pos c, if_pos c]
    · rw [if_neg c, if_neg c]
      have : k ≠ i := fun z => c (z ▸ hi)
      exact mb_gj H q hn hp hi k N' (by omega) (by omega) (by omega)
theorem mb_sp {h : pb_HP} {p : Nat → Nat} (H : ma_H h) (q : ma_pm h 236 p) {a b : Nat} (ha : a < 6) (hb : b < 6) : ∃ g, f_281 h 217 (nI a) (nI b) = some g ∧ ma_fr [236] [] h g ∧ ma_pm g 236 (sp_sp p a b) := by
  refine ⟨pb_pI (pb_pI h 236 a (nI (p b))) 236 b (nI (p a)), ?_, ma_fr_pI (ma_fr_pI (ma_fr_r _ _ _) (.inl (by decide)) _) (.inl (by decide)) _, fun k hk => ?_⟩
  · simp only [f_281, if_pos (mi_217 H), mr_217_43 H, Option.bind_some, if_pos (mx_236 H ha), if_pos (mx_236 H hb), nI_clamp (show a < 2 ^ 31 by omega), nI_clamp (show b < 2 ^ 31 by omega), q a ha, q b hb]
  · rw [ma_Ik, if_pos rfl]
    unfold sp_sp
    by_cases e : k = b
    · rw [if_pos e, if_pos e]
    · rw [if_neg e, if_neg e, ma_Ik, if_pos rfl]
      by_cases e2 : k = a
      · rw [if_pos e2, if_pos e2]
      · rw [if_neg e2, if_neg e2]; exact q k hk
theorem mb_rv : ∀ (f : Nat) (p : Nat → Nat) (h : pb_HP) (a b N' : Nat), ma_H h → ma_pm h 236 p → a ≤ 6 → b < 6 → b ≤ a + f → f < N' → ∃ g, pb_wl (f_282_84s N 217) N' (nI a, nI b, h) = some g ∧ ma_fr [236] [] h g ∧ ma_pm g 236 (sp_rv f p a b)
  | f, _, _, _, _, 0, _, _, _, _, _, z => absurd z (Nat.not_lt_zero f)
  | 0, p, h, a, b, N' + 1, H, q, ha, hb, hf, _ => by
    have st : f_282_84s N 217 (nI a, nI b, h) = some (.inr h) := by simp only [f_282_84s, if_pos (nI_le (show b ≤ a by omega) (show a < 2 ^ 31 by omega))]
    refine ⟨h, ?_, ma_fr_r _ _ _, q⟩
    unfold pb_wl
    rw [st]
  | f + 1, p, h, a, b, N' + 1, H, q, ha, hb, hf, hN' => by
    unfold sp_rv
    by_cases c : b ≤ a
    · have st : f_282_84s N 217 (nI a, nI b, h) = some (.inr h) := by simp only [f_282_84s, if_pos (nI_le c (show a < 2 ^ 31 by omega))]
      rw [if_pos c]
      refine ⟨h, ?_, ma_fr_r _ _ _, q⟩
      unfold pb_wl
      rw [st]
    · rw [if_neg c]
      obtain ⟨g, s1, s2, s3⟩ := mb_sp H q (show a < 6 by omega) hb
      have e2 : nI b + (-1) = nI (b - 1) := by
        rw [show b = (b - 1) + 1 by omega]; exact pk_m1 _
      have st : f_282_84s N 217 (nI a, nI b, h) = some (.inl (nI (a + 1), nI (b - 1), g)) := by
        simp only [f_282_84s, if_neg (nI_ge (show a < b by omega) (show b < 2 ^ 31 by omega)), if_pos (mi_217 H), s1, Option.bind_some, nI_1, e2]
      obtain ⟨g2, t1, t2, t3⟩ := mb_rv f (sp_sp p a b) g (a + 1) (b - 1) N' (ma_H_fr H s2) s3 (by omega) (by omega) (by omega) (by omega)
      refine ⟨g2, ?_, ma_fr_t s2 t2, t3⟩
      unfold pb_wl
      rw [st]
      exact t1
theorem mb_nx (H : ma_H h) (q : ma_pm h 236 p) (hn1 : 1 ≤ n) (hn : n ≤ 6) (hp : ∀ k, k < n → p k < n) (e : pb_I h 217 24 = nI n) (hN : 3000 < N) : (sp_gi p (n - 1) = 0 → f_282 N h 217 = some (0, h)) ∧ (sp_gi p (n - 1) ≠ 0 → ∃ g, f_282 N h 217 = some (1, g) ∧ ma_fr [236] [] h g ∧ ma_pm g 236 (sp_np p n (sp_gi p (n - 1) - 1))) := by
  have l7 := mb_gi (N := N) H q hn hp (n - 1) N (by omega) (by omega)
  rw [← ma_m2 hn1 hn] at l7
  constructor
  · intro z
    rw [z] at l7
    simp only [f_282, f_282_34, if_pos (mi_217 H), e, l7, Option.bind_some, if_neg (show ¬ 0 ≤ mI 0 by decide)]
  · intro z
    rcases sp_gi_p p (n - 1) with z0 | ⟨i, z1, z2, z3⟩
    · exact absurd z0 z
    · rw [z1, mI_s] at l7
      rw [z1, Nat.add_sub_cancel]
      have l47 := mb_gj (N := N) H q hn hp z3 (n - 1) N (by omega) (by omega) (by omega)
      have jb := sp_gj_le p i (n - 1)
      obtain ⟨g1, s1, s2, s3⟩ := mb_sp H q (show i < 6 by omega) (show sp_gj p i (n - 1) < 6 by omega)
      have H1 := ma_H_fr H s2
      obtain ⟨g2, t1, t2, t3⟩ := mb_rv (N := N) 6 _ g1 (i + 1) (n - 1) N H1 s3 (by omega) (by omega) (by omega) (by omega)
      have e1 : pb_I g1 217 24 = nI n := by rw [ma_fr_o s2 (by decide) (by decide)]; exact e
      have nn : nI n - 1 = nI (n - 1) := lK1 hn1
      refine ⟨g2, ?_, ma_fr_t s2 t2, t3⟩
      have ge : (0 : Int32) ≤ nI i := (lA0 (show i < 2 ^ 31 by omega)).mpr trivial
      simp only [f_282, f_282_34, if_pos (mi_217 H), e, l7, Option.bind_some, if_pos ge, nn, l47, s1, if_pos (mi_217 H1), e1, nI_1, t1]

end

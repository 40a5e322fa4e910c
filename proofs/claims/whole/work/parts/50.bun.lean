/-! bun -/
theorem sp_pt_iff {K : ma_K} (O : ma_OK K) {c m : Nat} (hm : m < K 0 0) : sp_pt K c 63 = m ↔ 0 < sp_rg K c m ∧ ∀ o, o < K 0 0 → o ≠ m → sp_rg K c o + (if o < m then 1 else 0) ≤ sp_rg K c m := by
  have hO := O.1
  have inv := ma_fo_inv (g := sp_pg K c 63) (a0 := (0, 6)) (P := fun j a => j ≤ 6 → (a.2 = 6 ∧ a.1 = 0 ∧ ∀ o, o < j → sp_rg K c o = 0) ∨ (a.2 < j ∧ a.1 = sp_rg K c a.2 ∧ 0 < a.1 ∧ ∀ o, o < j → o ≠ a.2 → sp_rg K c o + (if o < a.2 then 1 else 0) ≤ a.1)) (fun _ => .inl ⟨rfl, rfl, fun o ho => absurd ho (Nat.not_lt_zero o)⟩) (K 0 0) (fun j a _ ha h6 => by
    have ha := ha (by omega)
    have tb : (63 : Nat).testBit j = true := by
      have : ∀ j : Fin 6, (63 : Nat).testBit j.val = true := by decide
      exact this ⟨j, by omega⟩
    unfold sp_pg
    by_cases q : a.1 < sp_rg K c j
    · rw [if_pos ⟨tb, q⟩]
      refine .inr ⟨Nat.lt_succ_self j, rfl, by dsimp only; omega, fun o ho hne => ?_⟩
      dsimp only at hne ⊢
      rw [if_pos (show o < j by omega)]
      rcases ha with ⟨_, z2, z3⟩ | ⟨z1, z2, z3, z4⟩
      · have := z3 o (by omega); omega
      · by_cases e : o = a.2
        · rw [e]; omega
        · have := z4 o (by omega) e; omega
    · rw [if_neg (fun z => q z.2)]
      rcases ha with ⟨z1, z2, z3⟩ | ⟨z1, z2, z3, z4⟩
      · refine .inl ⟨z1, z2, fun o ho => ?_⟩
        by_cases e : o = j
        · rw [e]; omega
        · exact z3 o (by omega)
      · refine .inr ⟨by omega, z2, z3, fun o ho hne => ?_⟩
        by_cases e : o = j
        · rw [e, if_neg (by omega)]; omega
        · exact z4 o (by omega) hne) hO
  unfold sp_pt
  obtain ⟨⟨v, p⟩, hp⟩ : ∃ x, x = ma_fo (sp_pg K c 63) (K 0 0) (0, 6) := ⟨_, rfl⟩
  rw [← hp] at inv ⊢
  dsimp only at inv ⊢
  constructor
  · intro e
    subst e
    rcases inv with ⟨z1, _⟩ | ⟨z1, z2, z3, z4⟩
    · omega
    · rw [← z2]; exact ⟨z3, z4⟩
  · intro ⟨y1, y2⟩
    rcases inv with ⟨_, z2, z3⟩ | ⟨z1, z2, z3, z4⟩
    · have := z3 m hm; omega
    · rcases Nat.lt_trichotomy p m with e | e | e
      · have a := y2 p z1 (by omega)
        have b := z4 m hm (by omega)
        rw [if_pos e] at a
        omega
      · exact e
      · have a := y2 p z1 (by omega)
        have b := z4 m hm (by omega)
        rw [if_pos e] at b
        omega
def sp_bK6 (K : ma_K) (c t n : Nat) : ma_K := sp_up K 6 (6 * c + t) (K 6 (6 * c + t) + n)
theorem sp_ls_b (K : ma_K) (c n s : Nat) {t : Nat} (ht : t < 6) : sp_ls (sp_bK6 K c t n) c s = sp_ls K c s + (if s.testBit t then n else 0) := by
  have : ∀ j, ma_fo (fun t' a => if s.testBit t' then a + sp_bK6 K c t n 6 (6 * c + t') else a) j 0 = ma_fo (fun t' a => if s.testBit t' then a + K 6 (6 * c + t') else a) j 0 + (if t < j then (if s.testBit t then n else 0) else 0) := fun j => by
    induction j with
    | zero => rw [if_neg (by omega)]; rfl
    | succ j ih =>
      rw [ma_fo_s, ma_fo_s, ih]
      by_cases e : j = t
      · subst e
        rw [if_neg (Nat.lt_irrefl j), if_pos (Nat.lt_succ_self j)]
        have : sp_bK6 K c j n 6 (6 * c + j) = K 6 (6 * c + j) + n := sp_up_s _ _ _ _
        rw [this]
        split <;> omega
      · have : sp_bK6 K c t n 6 (6 * c + j) = K 6 (6 * c + j) := sp_up_n (by omega)
        rw [this]
        by_cases l : t < j
        · rw [if_pos l, if_pos (show t < j + 1 by omega)]
          cases s.testBit j <;> simp <;> omega
        · rw [if_neg l, if_neg (show ¬ t < j + 1 by omega)]
          simp only [Nat.add_zero]
  have := this 6
  rw [if_pos ht] at this
  exact this
theorem sp_rg_b (K : ma_K) (c n o : Nat) {t : Nat} (ht : t < 6) : sp_rg (sp_bK6 K c t n) c o = if sp_dr K c o then 0 else sp_ls K c (K 2 o) + (if (K 2 o).testBit t then n else 0) + 1 := by
  have e1 : sp_bK6 K c t n 2 o = K 2 o := sp_up_n (by omega)
  have e2 : sp_bK6 K c t n 5 c = K 5 c := sp_up_n (by omega)
  unfold sp_rg
  rw [e1, sp_ls_b K c n _ ht]
  unfold sp_dr
  rw [e1, e2]
theorem ma_OK_b {K : ma_K} (O : ma_OK K) (OT : ma_OT K) {n : Nat} (hn : n ≤ 60) (c t : Nat) : ma_OK (sp_bK6 K c t n) := ma_OK_up6 O (by have := (OT (6 * c + t)).2; omega)
/-- with n buns more of t the child is for m -/
abbrev sp_bP (K : ma_K) (c m t n : Nat) : Prop := sp_pt (sp_bK6 K c t n) c 63 = m
theorem sp_bP_iff {K : ma_K} (O : ma_OK K) (OT : ma_OT K) {c m t n : Nat} (hm : m < K 0 0) (ht : t < 6) (hn : n ≤ 60) : sp_bP K c m t n ↔ sp_dr K c m = false ∧ ∀ o, o < K 0 0 → o ≠ m → sp_dr K c o = false → sp_ls K c (K 2 o) + (if (K 2 o).testBit t then n else 0) + (if o < m then 1 else 0) ≤ sp_ls K c (K 2 m) + (if (K 2 m).testBit t then n else 0) := by
  have e0 : sp_bK6 K c t n 0 0 = K 0 0 := sp_up_n (by omega)
  unfold sp_bP
  rw [sp_pt_iff (ma_OK_b O OT hn c t) (by rw [e0]; exact hm), e0, sp_rg_b K c n m ht]
  constructor
  · rintro ⟨a, b⟩
    have d : sp_dr K c m = false := by
      cases z : sp_dr K c m
      · rfl
      · rw [z] at a; simp at a
    refine ⟨d, fun o ho hne hd => ?_⟩
    have := b o ho hne
    rw [sp_rg_b K c n o ht] at this
    simp only [d, hd, Bool.false_eq_true, if_false] at this
    omega
  · rintro ⟨d, b⟩
    rw [d, if_neg (by decide)]
    refine ⟨by omega, fun o ho hne => ?_⟩
    rw [sp_rg_b K c n o ht]
    cases z : sp_dr K c o
    · have := b o ho hne z
      rw [if_neg (by decide)]
      omega
    · rw [if_pos rfl]
      split <;> omega
theorem sp_bP0 {K : ma_K} {c m t : Nat} : sp_bP K c m t 0 ↔ sp_pt K c 63 = m := by
  unfold sp_bP sp_bK6
  rw [Nat.add_zero, sp_up_id]
/-- the fewest, + 1 -/
def sp_bo (K : ma_K) (c m t : Nat) : Nat := ma_fo (fun n b => if b = 0 ∧ sp_bP K c m t n then n + 1 else b) 60 0
theorem sp_bo_0 {K : ma_K} {c m t : Nat} (h : ∀ n, n < 60 → ¬ sp_bP K c m t n) : sp_bo K c m t = 0 :=
  ma_fo_inv (g := fun n b => if b = 0 ∧ sp_bP K c m t n then n + 1 else b) (P := fun _ b => b = 0) (a0 := 0) rfl 60 (fun j a hj ha => by rw [if_neg (fun z => h j hj z.2)]; exact ha)
theorem sp_bo_x {K : ma_K} {c m t x : Nat} (hx : x < 60) (h1 : sp_bP K c m t x) (h2 : ∀ k, k < x → ¬ sp_bP K c m t k) : sp_bo K c m t = x + 1 := by
  have := ma_fo_inv (g := fun n b => if b = 0 ∧ sp_bP K c m t n then n + 1 else b) (P := fun j b => b = if x < j then x + 1 else 0) (a0 := 0) rfl 60 (fun j a hj ha => by
    rw [ha]
    by_cases l : x < j
    · rw [if_pos l, if_neg (fun z => by omega), if_pos (show x < j + 1 by omega)]
    · rw [if_neg l]
      by_cases e : x = j
      · rw [← e, if_pos ⟨rfl, h1⟩, if_pos (Nat.lt_succ_self x)]
      · rw [if_neg (fun z => h2 j (by omega) z.2), if_neg (show ¬ x < j + 1 by omega)])
  rw [if_pos hx] at this
  exact this
theorem sp_bo_le (K : ma_K) (c m t : Nat) : sp_bo K c m t ≤ 60 := ma_fo_inv (g := fun n b => if b = 0 ∧ sp_bP K c m t n then n + 1 else b) (P := fun j b => b ≤ j) (a0 := 0) (Nat.le_refl _) 60 (fun j a hj ha => by split <;> omega)
theorem sp_ls_ot {K : ma_K} (OT : ma_OT K) (c s : Nat) : sp_ls K c s ≤ 54 := by
  have := ma_fo_inv (g := fun t a => if s.testBit t then a + K 6 (6 * c + t) else a) (P := fun j a => a ≤ 9 * j) (a0 := 0) (Nat.le_refl _) 6 (fun j a _ ha => by
    have := (OT (6 * c + j)).2
    split <;> omega)
  exact this
theorem ma_lkT {a b e : Nat} (ha : a ≤ 700) (hb : b ≤ 700) (he : e ≤ 1) : (nI a - nI b + nI e).toInt = (a : Int) - b + e := by
  rw [Int32.toInt_add, Int32.toInt_sub, nI_toInt (by omega), nI_toInt (by omega), nI_toInt (by omega)]
  rw [Int.bmod_eq_of_le (n := (a : Int) - b) (by omega) (by omega), Int.bmod_eq_of_le (by omega) (by omega)]
theorem ma_lk0 {a b e : Nat} (ha : a ≤ 700) (hb : b ≤ 700) (he : e ≤ 1) : (nI a - nI b + nI e ≤ 0) ↔ a + e ≤ b := by
  rw [Int32.le_iff_toInt_le, ma_lkT ha hb he]
  have : (0 : Int32).toInt = 0 := by decide
  omega
theorem ma_lk1 {a b e : Nat} (ha : a ≤ 700) (hb : b ≤ 700) (he : e ≤ 1) (h : b < a + e) : nI a - nI b + nI e = nI (a + e - b) := by
  apply Int32.toInt_inj.mp
  rw [ma_lkT ha hb he, nI_toInt (by omega)]
  omega
section
variable {h : pb_HP} {K : ma_K} {N c i m t : Nat}
def sp_nd (K : ma_K) (i m t j x : Nat) : Prop := x ≤ 55 ∧ (∀ o, o < j → o ≠ m → sp_dr K i o = false → sp_ls K i (K 2 o) + (if o < m then 1 else 0) ≤ sp_ls K i (K 2 m) ∨ ((K 2 o).testBit t = false ∧ sp_ls K i (K 2 o) + (if o < m then 1 else 0) ≤ sp_ls K i (K 2 m) + x)) ∧ (x = 0 ∨ ∃ o, o < K 0 0 ∧ o ≠ m ∧ sp_dr K i o = false ∧ (K 2 o).testBit t = false ∧ sp_ls K i (K 2 o) + (if o < m then 1 else 0) = sp_ls K i (K 2 m) + x)
theorem c_26 (H : ma_H h) (V : ma_V h c K) (O : ma_OK K) (OT : ma_OT K) (hi : i < 6) (hm : m < K 0 0) (ht : t < 6) (h0 : sp_pt K i 63 ≠ m) (hN : 3000 < N) : f_26 N h c (nI i) (nI m) (nI t) = some (mI (sp_bo K i m t)) := by
  have hO := O.1
  have Vc := V.1
  have hm6 : m < 6 := by omega
  have r1 := c_9 H V O hi hm6 hN
  have hb := (O.2.2.1 m).2.1
  have hL := sp_ls_ot OT i
  have em := V.2.2.2.2.1 m hm6
  have bt := ma_bit (s := K 2 m) (k := t) (by omega) (by omega)
  have none : (∀ n, n < 60 → ¬ sp_bP K i m t n) → mI (sp_bo K i m t) = -1 := fun z => by rw [sp_bo_0 z]; rfl
  cases qd : sp_dr K i m
  · have rg : sp_rg K i m = sp_ls K i (K 2 m) + 1 := by unfold sp_rg; rw [qd, if_neg (by decide)]
    rw [rg, mI_s] at r1
    have n1 : ¬ nI (sp_ls K i (K 2 m)) = -1 := fun z => (mF _ (by have := hL (K 2 m); omega)).mp z
    cases qt : (K 2 m).testBit t
    · rw [qt] at bt
      have := none (fun n hn z => by
        rw [sp_bP_iff O OT hm ht (by omega), qt] at z
        refine h0 (sp_bP0.mp ((sp_bP_iff (t := t) O OT hm ht (by omega)).mpr ⟨qd, fun o ho hne hd => ?_⟩))
        have := z.2 o ho hne hd
        rw [qt]
        simp only [Bool.false_eq_true, if_false] at this ⊢
        split at this <;> split <;> omega)
      rw [this]
      simp only [f_26, if_pos (wv_is H Vc), r1, Option.bind_some, if_neg n1, jv_r3 H Vc, if_pos (wv_x2 H Vc hm6), nI_clamp (show m < 2 ^ 31 by omega), em, bt, Bool.false_eq_true, if_false, not_true_eq_false]
    · rw [qt] at bt
      have hl : ∃ e, pb_wl (f_26_35s N h c (nI i) (nI m) (nI t) (nI (sp_ls K i (K 2 m)))) N (0, 0) = some e ∧ ((e = .inl (-1) ∧ ∃ o, o < K 0 0 ∧ o ≠ m ∧ sp_dr K i o = false ∧ (K 2 o).testBit t = true ∧ sp_ls K i (K 2 m) < sp_ls K i (K 2 o) + (if o < m then 1 else 0)) ∨ ∃ x, e = .inr (nI x) ∧ sp_nd K i m t (K 0 0) x) := by
        refine ma_lh (fun j s => s.2 = nI j ∧ ∃ x, s.1 = nI x ∧ sp_nd K i m t j x) _ (K 0 0) 0 N _ (by omega) (by omega) ⟨rfl, 0, rfl, by omega, fun o ho => absurd ho (Nat.not_lt_zero o), .inl rfl⟩ ?_ ?_
        · rintro j ⟨s, y⟩ _ hj ⟨hy, x, hx, x55, x1, x2⟩
          dsimp only at hy hx
          subst hy; subst hx
          have r2 := c_9 H V O hi (show j < 6 by omega) hN
          have ej : ¬ nI (K 0 0) ≤ nI j := nI_ge hj (by omega)
          have sk : (j = m ∨ sp_dr K i j = true ∨ sp_ls K i (K 2 j) + (if j < m then 1 else 0) ≤ sp_ls K i (K 2 m)) → sp_nd K i m t (j + 1) x := fun z => ⟨x55, fun o ho hne hd => by
            by_cases e : o = j
            · subst e
              rcases z with z | z | z
              · exact absurd z hne
              · rw [hd] at z; cases z
              · exact .inl z
            · exact x1 o (by omega) hne hd, x2⟩
          have red : f_26_35s N h c (nI i) (nI m) (nI t) (nI (sp_ls K i (K 2 m))) (nI x, nI j) = f_26_65 N h c (nI i) (nI m) (nI t) (nI (sp_ls K i (K 2 m))) (nI x) (nI j) (nI (if j < m then 1 else 0)) (mI (sp_rg K i j) - nI (sp_ls K i (K 2 m))) := by
            simp only [f_26_35s, if_pos (wv_is H Vc), V.2.1, if_neg ej, r2, Option.bind_some]
            by_cases l : j < m
            · rw [if_pos l, if_neg (nI_ge l (by omega))]; rfl
            · rw [if_neg l, if_pos (nI_le (by omega) (by omega))]; rfl
          by_cases em' : j = m
          · left
            refine ⟨(nI x, nI (j + 1)), ?_, rfl, x, rfl, sk (.inl em')⟩
            rw [red]
            simp only [f_26_65, if_pos (show nI j = nI m by rw [em']), nI_1]
          · have nm : ¬ nI j = nI m := fun z => em' ((nI_eq (by omega) (by omega)).mp z)
            cases dj : sp_dr K i j
            · have rj : sp_rg K i j = sp_ls K i (K 2 j) + 1 := by unfold sp_rg; rw [dj, if_neg (by decide)]
              rw [rj, mI_s] at r2 red
              have nj : ¬ nI (sp_ls K i (K 2 j)) = -1 := fun z => (mF _ (by have := hL (K 2 j); omega)).mp z
              have he : (if j < m then 1 else 0) ≤ 1 := by split <;> omega
              have q0 := ma_lk0 (a := sp_ls K i (K 2 j)) (b := sp_ls K i (K 2 m)) (by have := hL (K 2 j); omega) (by have := hL (K 2 m); omega) he
              have q1 := ma_lk1 (a := sp_ls K i (K 2 j)) (b := sp_ls K i (K 2 m)) (by have := hL (K 2 j); omega) (by have := hL (K 2 m); omega) he
              have bj := (O.2.2.1 j).2.1
              have ej2 := V.2.2.2.2.1 j (by omega)
              have btj := ma_bit (s := K 2 j) (k := t) (by omega) (by omega)
              by_cases lk : sp_ls K i (K 2 j) + (if j < m then 1 else 0) ≤ sp_ls K i (K 2 m)
              · left
                refine ⟨(nI x, nI (j + 1)), ?_, rfl, x, rfl, sk (.inr (.inr lk))⟩
                rw [red]
                simp only [f_26_65, if_neg nm, if_pos (wv_is H Vc), r2, Option.bind_some, if_neg nj, if_pos (q0.mpr lk), nI_1]
              · have q2 := q1 (by omega)
                have q3 : ¬ nI (sp_ls K i (K 2 j)) - nI (sp_ls K i (K 2 m)) + nI (if j < m then 1 else 0) ≤ 0 := fun z => lk (q0.mp z)
                have q3' := q3
                rw [q2] at q3'
                have red2 : f_26_65 N h c (nI i) (nI m) (nI t) (nI (sp_ls K i (K 2 m))) (nI x) (nI j) (nI (if j < m then 1 else 0)) (nI (sp_ls K i (K 2 j)) - nI (sp_ls K i (K 2 m))) = if (if (K 2 j).testBit t then (1 : Int32) else 0) = 0 then some (.inl (if nI x < nI (sp_ls K i (K 2 j) + (if j < m then 1 else 0) - sp_ls K i (K 2 m)) then nI (sp_ls K i (K 2 j) + (if j < m then 1 else 0) - sp_ls K i (K 2 m)) else nI x, nI (j + 1))) else some (.inr (.inl (-1))) := by
                  simp only [f_26_65, if_neg nm, if_pos (wv_is H Vc), r2, Option.bind_some, if_neg nj, if_neg q3, if_neg q3', jv_r3 H Vc, if_pos (wv_x2 H Vc (show j < 6 by omega)), nI_clamp (show j < 2 ^ 31 by omega), ej2, btj, q2, nI_1]
                have lj := hL (K 2 j)
                cases tj : (K 2 j).testBit t
                · left
                  refine ⟨(nI (max x (sp_ls K i (K 2 j) + (if j < m then 1 else 0) - sp_ls K i (K 2 m))), nI (j + 1)), ?_, rfl, _, rfl, by omega, fun o ho hne hd => ?_, ?_⟩
                  · rw [red, red2, tj]
                    have lt : (nI x < nI (sp_ls K i (K 2 j) + (if j < m then 1 else 0) - sp_ls K i (K 2 m))) ↔ _ := nI_ltI (by omega) (by omega)
                    by_cases l : x < sp_ls K i (K 2 j) + (if j < m then 1 else 0) - sp_ls K i (K 2 m)
                    · rw [if_pos (lt.mpr l), Nat.max_eq_right (by omega)]; rfl
                    · rw [if_neg (fun z => l (lt.mp z)), Nat.max_eq_left (by omega)]; rfl
                  · by_cases e : o = j
                    · rw [e]; exact .inr ⟨tj, by omega⟩
                    · rcases x1 o (by omega) hne hd with z | z
                      · exact .inl z
                      · exact .inr ⟨z.1, by omega⟩
                  · by_cases l : x < sp_ls K i (K 2 j) + (if j < m then 1 else 0) - sp_ls K i (K 2 m)
                    · rw [Nat.max_eq_right (by omega)]
                      exact .inr ⟨j, hj, em', dj, tj, by omega⟩
                    · rw [Nat.max_eq_left (by omega)]; exact x2
                · right
                  refine ⟨.inl (-1), ?_, .inl ⟨rfl, j, hj, em', dj, tj, by omega⟩⟩
                  rw [red, red2, tj]; rfl
            · left
              have rj : sp_rg K i j = 0 := by unfold sp_rg; rw [dj, if_pos rfl]
              rw [rj] at r2 red
              refine ⟨(nI x, nI (j + 1)), ?_, rfl, x, rfl, sk (.inr (.inl dj))⟩
              rw [red]
              have nj : mI 0 = -1 := rfl
              simp only [f_26_65, if_neg nm, if_pos (wv_is H Vc), r2, Option.bind_some, if_pos nj, nI_1]
        · rintro ⟨s, y⟩ ⟨hy, x, hx, hz⟩
          dsimp only at hy hx
          subst hy; subst hx
          refine ⟨.inr (nI x), ?_, .inr ⟨x, rfl, hz⟩⟩
          simp only [f_26_35s, if_pos (wv_is H Vc), V.2.1, if_pos (nI_le (Nat.le_refl _) (show K 0 0 < 2 ^ 31 by omega))]
      obtain ⟨e, a1, a2⟩ := hl
      rcases a2 with ⟨rfl, o, o1, o2, o3, o4, o5⟩ | ⟨x, rfl, z1, z2, z3⟩
      · rw [none (fun n hn z => by
          have := ((sp_bP_iff O OT hm ht (by omega)).mp z).2 o o1 o2 o3
          rw [o4, qt, if_pos rfl] at this
          omega)]
        simp only [f_26, if_pos (wv_is H Vc), r1, Option.bind_some, if_neg n1, jv_r3 H Vc, if_pos (wv_x2 H Vc hm6), nI_clamp (show m < 2 ^ 31 by omega), em, bt, i10, if_true, if_false, not_false_eq_true, a1]
      · rw [sp_bo_x (x := x) (by omega) ((sp_bP_iff O OT hm ht (by omega)).mpr ⟨qd, fun o ho hne hd => ?_⟩) (fun k hk z => ?_), mI_s]
        · simp only [f_26, if_pos (wv_is H Vc), r1, Option.bind_some, if_neg n1, jv_r3 H Vc, if_pos (wv_x2 H Vc hm6), nI_clamp (show m < 2 ^ 31 by omega), em, bt, i10, if_true, if_false, not_false_eq_true, a1]
        · rw [qt, if_pos rfl]
          rcases z2 o ho hne hd with y | ⟨y1, y2⟩
          · by_cases tt : (K 2 o).testBit t = true
            · rw [if_pos tt]; omega
            · rw [if_neg tt]; omega
          · rw [y1, if_neg (by decide)]; omega
        · rcases z3 with y | ⟨o, o1, o2, o3, o4, o5⟩
          · omega
          · have := ((sp_bP_iff O OT hm ht (by omega)).mp z).2 o o1 o2 o3
            rw [o4, qt, if_neg (by decide), if_pos rfl] at this
            omega
  · have rg : sp_rg K i m = 0 := by unfold sp_rg; rw [qd, if_pos rfl]
    rw [rg] at r1
    have nj : mI 0 = -1 := rfl
    rw [none (fun n hn z => by
      rw [sp_bP_iff O OT hm ht (by omega), qd] at z
      exact absurd z.1 (by decide))]
    simp only [f_26, if_pos (wv_is H Vc), r1, Option.bind_some, if_pos nj]
theorem sp_b_b (K : ma_K) (c t n k : Nat) : sp_up (sp_bK6 K c t n) 6 (6 * c + t) (K 6 (6 * c + t) + k) = sp_bK6 K c t k := by
  unfold sp_bK6
  funext a b
  by_cases e : a = 6 ∧ b = 6 * c + t
  · rw [e.1, e.2, sp_up_s, sp_up_s]
  · rw [sp_up_n (by omega), sp_up_n (by omega), sp_up_n (by omega)]
theorem sp_b_0 (K : ma_K) (c t : Nat) : sp_bK6 K c t 0 = K := by
  unfold sp_bK6
  rw [Nat.add_zero, sp_up_id]
theorem ma_1e6 : (1000000 : Int32) = nI 1000000 := by decide
def sp_bI (x : Nat) : Int32 := if x = 0 then 1000000 else nI (x - 1)
theorem m_286 (H : ma_H h) (M : ma_M h K) (O : ma_OK K) (OT : ma_OT K) (hi : i < 6) (hm : m < K 0 0) (ht : t < 6) (hN : 3000 < N) : ∃ g, f_286 N h 217 (nI i) (nI m) (nI t) = some (sp_bI (sp_bo K i m t), g) ∧ ma_fr [232] [] h g ∧ ma_M g K := by
  have hO := O.1
  have ix : (6 : Int32) * nI i + nI t = nI (6 * i + t) := by rw [lI6, nI_add]
  have e0 := M.2.2.2.2.2.2 (6 * i + t) (by omega)
  have hl : ∃ e, pb_wl (f_286_21s N 217 (nI i) (nI m) (nI t) (nI (K 6 (6 * i + t)))) N (1000000, 0, h) = some e ∧ (e.1 = sp_bI (sp_bo K i m t) ∧ ma_fr [232] [] h e.2 ∧ ∃ v, ma_M e.2 (sp_bK6 K i t v)) := by
    refine ma_lh (fun j s => s.2.1 = nI j ∧ ma_fr [232] [] h s.2.2 ∧ (∃ v, ma_M s.2.2 (sp_bK6 K i t v)) ∧ ((s.1 = 1000000 ∧ ∀ k, k < j → ¬ sp_bP K i m t k) ∨ ∃ x, j = x + 1 ∧ x < 60 ∧ s.1 = nI x ∧ sp_bP K i m t x ∧ ∀ k, k < x → ¬ sp_bP K i m t k)) _ 60 0 N _ (by omega) (by omega) ⟨rfl, ma_fr_r _ _ _, ⟨0, by rw [sp_b_0]; exact M⟩, .inl ⟨rfl, fun k hk => absurd hk (Nat.not_lt_zero k)⟩⟩ ?_ ?_
    · rintro j ⟨s, y, g⟩ _ hj ⟨hy, hf, ⟨v, hv⟩, hs⟩
      dsimp only at hy hf hv hs
      subst hy
      have H2 := ma_H_fr H hf
      have ej : ¬ (60 : Int32) ≤ nI j := (not_congr (nI_leI (a := 60) (b := j) (by decide) (by omega))).mpr (by omega)
      rcases hs with ⟨rfl, hz⟩ | ⟨x, rfl, hx, rfl, y1, y2⟩
      · left
        have M3 : ma_M (pb_pI g 232 (6 * i + t) (nI (K 6 (6 * i + t) + j))) (sp_bK6 K i t j) := by
          have := ma_M_p6 hv (6 * i + t) (K 6 (6 * i + t) + j)
          rw [sp_b_b] at this
          exact this
        have H3 : ma_H (pb_pI g 232 (6 * i + t) (nI (K 6 (6 * i + t) + j))) := H2
        have f3 : ma_fr [232] [] h (pb_pI g 232 (6 * i + t) (nI (K 6 (6 * i + t) + j))) := ma_fr_pI hf (.inl (by decide)) _
        obtain ⟨g3, e3⟩ : ∃ g3, g3 = pb_pI g 232 (6 * i + t) (nI (K 6 (6 * i + t) + j)) := ⟨_, rfl⟩
        have Oj := ma_OK_b O OT (show j ≤ 60 by omega) i t
        rw [← e3] at M3 H3 f3
        have p7 := m_207 (N := N) H3 M3 Oj hi hN
        have le : sp_pt (sp_bK6 K i t j) i 63 ≤ 6 := sp_pt_le Oj _ _
        have eq : (nI (sp_pt (sp_bK6 K i t j) i 63) = nI m) ↔ sp_bP K i m t j := nI_eq (by omega) (by omega)
        have red : f_286_21s N 217 (nI i) (nI m) (nI t) (nI (K 6 (6 * i + t))) (1000000, nI j, g) = if ¬ nI (sp_pt (sp_bK6 K i t j) i 63) = nI m then some (.inl (1000000, nI (j + 1), g3)) else some (.inl (nI j, nI (j + 1), g3)) := by
          simp only [f_286_21s, if_neg ej, not_true_eq_false, if_false, if_pos (mi_217 H2), mr_217_34 H2, Option.bind_some, ix, if_pos (mx_232 H2 (show 6 * i + t < 36 by omega)), nI_clamp (show 6 * i + t < 2 ^ 31 by omega), nI_add, ← e3, p7, nI_1]
        by_cases q : sp_bP K i m t j
        · refine ⟨(nI j, nI (j + 1), g3), by rw [red, if_neg (fun z => z (eq.mpr q))], rfl, f3, ⟨j, M3⟩, .inr ⟨j, rfl, hj, rfl, q, hz⟩⟩
        · refine ⟨(1000000, nI (j + 1), g3), by rw [red, if_pos (fun z => q (eq.mp z))], rfl, f3, ⟨j, M3⟩, .inl ⟨rfl, fun k hk => ?_⟩⟩
          by_cases e : k = j
          · rw [e]; exact q
          · exact hz k (by omega)
      · right
        have nx : ¬ nI x = 1000000 := fun z => by have := (lE1000000 (j := x) (by omega)).mp z; omega
        refine ⟨(nI x, g), ?_, ?_, hf, v, hv⟩
        · simp only [f_286_21s, if_neg ej, nx, not_false_eq_true, if_true]
        · rw [sp_bo_x hx y1 y2]; rfl
    · rintro ⟨s, y, g⟩ ⟨hy, hf, ⟨v, hv⟩, hs⟩
      dsimp only at hy hf hv hs
      subst hy
      refine ⟨(s, g), rfl, ?_, hf, v, hv⟩
      rcases hs with ⟨rfl, hz⟩ | ⟨x, _, hx, rfl, y1, y2⟩
      · rw [sp_bo_0 hz]; unfold sp_bI; rw [if_pos rfl]
      · rw [sp_bo_x hx y1 y2]; rfl
  obtain ⟨⟨s, g⟩, a1, a2, a3, v, a4⟩ := hl
  dsimp only at a2 a3 a4
  have H2 := ma_H_fr H a3
  refine ⟨pb_pI g 232 (6 * i + t) (nI (K 6 (6 * i + t))), ?_, ma_fr_pI a3 (.inl (by decide)) _, ?_⟩
  · simp only [f_286, f_286_77, if_pos (mi_217 H), if_pos (mi_217 H2), mr_217_34 H, mr_217_34 H2, Option.bind_some, ix, if_pos (mx_232 H (show 6 * i + t < 36 by omega)), if_pos (mx_232 H2 (show 6 * i + t < 36 by omega)), nI_clamp (show 6 * i + t < 2 ^ 31 by omega), e0, a1, a2]
  · have := ma_M_p6 a4 (6 * i + t) (K 6 (6 * i + t) + 0)
    rw [sp_b_b, sp_b_0] at this
    exact this
def sp_bug (K : ma_K) (i m t : Nat) (a : Nat × Nat) : Nat × Nat := if sp_bo K i m t ≠ 0 ∧ (a.1 = 0 ∨ sp_bo K i m t < a.1) then (sp_bo K i m t, t + 1) else a
def sp_bu (K : ma_K) (i m : Nat) : Nat × Nat := ma_fo (sp_bug K i m) 6 (0, 0)
theorem sp_bug_i (K : ma_K) (i m j : Nat) (a : Nat × Nat) (h1 : a.1 ≤ 60) (h2 : a.2 ≤ j) (h3 : a.1 = 0 ↔ a.2 = 0) : (sp_bug K i m j a).1 ≤ 60 ∧ (sp_bug K i m j a).2 ≤ j + 1 ∧ ((sp_bug K i m j a).1 = 0 ↔ (sp_bug K i m j a).2 = 0) := by
  have := sp_bo_le K i m j
  unfold sp_bug
  generalize sp_bo K i m j = b at *
  by_cases q : b ≠ 0 ∧ (a.1 = 0 ∨ b < a.1)
  · rw [if_pos q]
    exact ⟨this, Nat.le_refl _, fun z => absurd z q.1, fun z => absurd z (by omega)⟩
  · rw [if_neg q]
    exact ⟨h1, by omega, h3⟩
theorem sp_bu_i (K : ma_K) (i m n : Nat) : (ma_fo (sp_bug K i m) n (0, 0)).1 ≤ 60 ∧ (ma_fo (sp_bug K i m) n (0, 0)).2 ≤ n ∧ ((ma_fo (sp_bug K i m) n (0, 0)).1 = 0 ↔ (ma_fo (sp_bug K i m) n (0, 0)).2 = 0) :=
  ma_fo_inv (g := sp_bug K i m) (P := fun j a => a.1 ≤ 60 ∧ a.2 ≤ j ∧ (a.1 = 0 ↔ a.2 = 0)) (a0 := (0, 0)) ⟨by decide, by decide, by simp⟩ n (fun j a _ ha => sp_bug_i K i m j a ha.1 ha.2.1 ha.2.2)
theorem c_25l (H : ma_H h) (V : ma_V h c K) (O : ma_OK K) (OT : ma_OT K) (hi : i < 6) (hm : m < K 0 0) (h0 : sp_pt K i 63 ≠ m) (hN : 3000 < N) (b : Int32) : pb_wl (f_25_22s N h c (nI i) (nI m) b) N (-1, -1, 0) = some (mI (sp_bu K i m).1, mI (sp_bu K i m).2) := by
  have Vc := V.1
  refine ma_wl (fun j => (mI (ma_fo (sp_bug K i m) j (0, 0)).1, mI (ma_fo (sp_bug K i m) j (0, 0)).2, nI j)) 6 N 0 (by omega) (fun j _ hj => ?_) rfl
  rw [ma_fo_s]
  have inv := sp_bu_i K i m j
  obtain ⟨⟨u, v⟩, hu⟩ : ∃ a, a = ma_fo (sp_bug K i m) j (0, 0) := ⟨_, rfl⟩
  rw [← hu] at inv ⊢
  dsimp only at inv ⊢
  have ej : ¬ (6 : Int32) ≤ nI j := (not_congr (lA6 (by omega))).mpr (by omega)
  have bo := sp_bo_le K i m j
  have e1 : (mI (sp_bo K i m j) = -1) = (sp_bo K i m j = 0) := propext (mE _ (by omega))
  have e2 : (mI u = -1) = (u = 0) := propext (mE _ (by omega))
  have e3 : (mI u ≤ mI (sp_bo K i m j)) = (u ≤ sp_bo K i m j) := propext (mI_le (by omega) (by omega))
  simp only [f_25_22s, if_neg ej, if_pos (wv_is H Vc), c_26 H V O OT hi hm (show j < 6 by omega) h0 hN, Option.bind_some, e1, e2, e3, nI_1]
  unfold sp_bug
  by_cases q1 : sp_bo K i m j = 0
  · rw [if_pos q1, if_neg (fun z => z.1 q1)]
  · rw [if_neg q1]
    by_cases q2 : u = 0
    · rw [if_pos q2, if_pos ⟨q1, .inl q2⟩, mI_s]
    · rw [if_neg q2]
      by_cases q3 : u ≤ sp_bo K i m j
      · rw [if_pos q3, if_neg (fun z => by have := z.2; dsimp only at this; omega)]
      · rw [if_neg q3, if_pos ⟨q1, .inr (by dsimp only; omega)⟩, mI_s]
theorem sp_bu_1 (h0 : sp_pt K i 63 = m) : sp_bu K i m = (1, 1) := by
  have e6 : ∀ g : Nat → Nat × Nat → Nat × Nat, ma_fo g 6 (0, 0) = g 5 (g 4 (g 3 (g 2 (g 1 (g 0 (0, 0)))))) := fun g => rfl
  have b : ∀ t, sp_bo K i m t = 1 := fun t => sp_bo_x (x := 0) (by decide) (sp_bP0.mpr h0) (fun k hk => absurd hk (Nat.not_lt_zero k))
  unfold sp_bu
  rw [e6]
  simp [sp_bug, b]
theorem m_287l (H : ma_H h) (M : ma_M h K) (O : ma_OK K) (OT : ma_OT K) (hi : i < 6) (hm : m < K 0 0) (hN : 3000 < N) (b : Int32) : ∃ g, pb_wl (f_287_42s N 217 (nI i) (nI m) b) N (-1, 1000000, 0, h) = some (mI (sp_bu K i m).2, sp_bI (sp_bu K i m).1, g) ∧ ma_fr [232] [] h g := by
  have hl : ∃ e, pb_wl (f_287_42s N 217 (nI i) (nI m) b) N (-1, 1000000, 0, h) = some e ∧ (e.1 = mI (sp_bu K i m).2 ∧ e.2.1 = sp_bI (sp_bu K i m).1 ∧ ma_fr [232] [] h e.2.2) := by
    refine ma_lh (fun j s => s.2.2.1 = nI j ∧ ma_fr [232] [] h s.2.2.2 ∧ ma_M s.2.2.2 K ∧ s.1 = mI (ma_fo (sp_bug K i m) j (0, 0)).2 ∧ s.2.1 = sp_bI (ma_fo (sp_bug K i m) j (0, 0)).1) _ 6 0 N _ (by omega) (by omega) ⟨rfl, ma_fr_r _ _ _, M, rfl, rfl⟩ ?_ ?_
    · rintro j ⟨s, s2, y, g⟩ _ hj ⟨hy, hf, hM, h1, h2⟩
      dsimp only at hy hf hM h1 h2
      subst hy
      left
      rw [ma_fo_s]
      have inv := sp_bu_i K i m j
      obtain ⟨⟨u, v⟩, hu⟩ : ∃ a, a = ma_fo (sp_bug K i m) j (0, 0) := ⟨_, rfl⟩
      rw [← hu] at inv h1 h2 ⊢
      dsimp only at inv h1 h2
      subst h1; subst h2
      have H2 := ma_H_fr H hf
      have ej : ¬ (6 : Int32) ≤ nI j := (not_congr (lA6 (by omega))).mpr (by omega)
      have bo := sp_bo_le K i m j
      obtain ⟨g3, p1, p2, p3⟩ := m_286 (N := N) H2 hM O OT hi hm (show j < 6 by omega) hN
      have enc : ∀ z, z ≤ 60 → sp_bI z = nI (if z = 0 then 1000000 else z - 1) := fun z _ => by
        unfold sp_bI
        by_cases q : z = 0
        · rw [if_pos q, if_pos q]; exact ma_1e6
        · rw [if_neg q, if_neg q]
      have b1 : ∀ z, z ≤ 60 → (if z = 0 then 1000000 else z - 1) < 2 ^ 31 := fun z _ => by split <;> omega
      have le : (sp_bI u ≤ sp_bI (sp_bo K i m j)) = ((if u = 0 then 1000000 else u - 1) ≤ if sp_bo K i m j = 0 then 1000000 else sp_bo K i m j - 1) := propext (by
        rw [enc _ inv.1, enc _ bo]
        exact nI_leI (b1 _ inv.1) (b1 _ bo))
      have mn : f_171 (sp_bI u) (sp_bI (sp_bo K i m j)) = some (nI (min (if u = 0 then 1000000 else u - 1) (if sp_bo K i m j = 0 then 1000000 else sp_bo K i m j - 1))) := by
        rw [enc _ inv.1, enc _ bo]
        exact m_171 (b1 _ inv.1) (b1 _ bo)
      obtain ⟨w, hw⟩ : ∃ w, w = sp_bug K i m j (u, v) := ⟨_, rfl⟩
      rw [← hw]
      refine ⟨(mI w.2, sp_bI w.1, nI (j + 1), g3), ?_, rfl, ma_fr_t hf p2, p3, rfl, rfl⟩
      rw [hw]
      simp only [f_287_42s, f_287_73, if_neg ej, if_pos (mi_217 H2), p1, Option.bind_some, le, mn, nI_1]
      unfold sp_bug
      generalize sp_bo K i m j = b at bo ⊢
      by_cases q : b ≠ 0 ∧ (u = 0 ∨ b < u)
      · have mm : min (if u = 0 then 1000000 else u - 1) (if b = 0 then 1000000 else b - 1) = if b = 0 then 1000000 else b - 1 := by split <;> split <;> omega
        rw [if_pos q, if_neg (by split <;> split <;> omega), enc _ bo, mI_s, mm]
      · have mm : min (if u = 0 then 1000000 else u - 1) (if b = 0 then 1000000 else b - 1) = if u = 0 then 1000000 else u - 1 := by split <;> split <;> omega
        rw [if_neg q, if_pos (by split <;> split <;> omega), enc _ inv.1, mm]
    · rintro ⟨s, s2, y, g⟩ ⟨hy, hf, hM, h1, h2⟩
      dsimp only at hy hf hM h1 h2
      subst hy
      exact ⟨(s, s2, g), rfl, h1, h2, hf⟩
  obtain ⟨⟨s, s2, g⟩, a1, a2, a3, a4⟩ := hl
  dsimp only at a2 a3 a4
  exact ⟨g, by rw [a1, a2, a3], a4⟩
end
section
variable {h : pb_HP} {N : Nat}
theorem q_bun (I : ma_INV h) (hN : 3000 < N) (x y z t : Int32) : ma_Q0 h (f_154 N h 0 x y z t) (fun g => f_287 N g 217 x y z t) := by
  have H := I.1
  have hq : ma_q h (pb_pI h 217 0 0) := ma_q_pI (ma_q_r h) (by decide) 0 0
  rcases ma_W I hN x with ⟨e1, e2⟩ | ⟨c, K, e1, hc, O, OT, V, e2⟩
  · exact ⟨-1, pb_pI h 217 0 0, by simp only [f_154, if_pos (mi_0 H), mr_0_0 H, Option.bind_some, if_pos (mi_1 H), e1], by simp only [f_287, if_pos (mi_217 H), e2 _ hq, Option.bind_some, i10, i01, true_or, or_true, false_or, or_false, true_and, and_true, and_false, false_and, not_true_eq_false, not_false_eq_true, if_true, if_false, eq_self, ma_b0, Bool.false_eq_true, Bool.true_eq_false, reduceCtorEq], hq⟩
  · have hO := O.1
    have hO2 := O.2.1
    cases qm : ma_at y (K 0 1)
    · obtain ⟨g, e3, q3, B⟩ := e2 _ hq
      exact ⟨-1, g, by simp only [f_154, if_pos (mi_0 H), mr_0_0 H, Option.bind_some, if_pos (mi_1 H), e1, if_pos (wv_is H V.1), c_4 H V, qm, i10, i01, true_or, or_true, false_or, or_false, true_and, and_true, and_false, false_and, not_true_eq_false, not_false_eq_true, if_true, if_false, eq_self, ma_b0, Bool.false_eq_true, Bool.true_eq_false, reduceCtorEq], by simp only [f_287, if_pos (mi_217 H), e3, Option.bind_some, if_pos (mi_217 B.1), m_201 B.1 B.2.1 O, qm, i10, i01, true_or, or_true, false_or, or_false, true_and, and_true, and_false, false_and, not_true_eq_false, not_false_eq_true, if_true, if_false, eq_self, ma_b0, Bool.false_eq_true, Bool.true_eq_false, reduceCtorEq], ma_q_t hq q3⟩
    · obtain ⟨i, hi, rfl⟩ := ma_at_ex (by omega) qm
      cases qz : ma_at z (K 0 0)
      · obtain ⟨g, e3, q3, B⟩ := e2 _ hq
        exact ⟨-1, g, by simp only [f_154, if_pos (mi_0 H), mr_0_0 H, Option.bind_some, if_pos (mi_1 H), e1, if_pos (wv_is H V.1), c_4 H V, c_3 H V, qm, qz, i10, i01, true_or, or_true, false_or, or_false, true_and, and_true, and_false, false_and, not_true_eq_false, not_false_eq_true, if_true, if_false, eq_self, ma_b0, Bool.false_eq_true, Bool.true_eq_false, reduceCtorEq], by simp only [f_287, if_pos (mi_217 H), e3, Option.bind_some, if_pos (mi_217 B.1), m_201 B.1 B.2.1 O, m_200 B.1 B.2.1 O, qm, qz, i10, i01, true_or, or_true, false_or, or_false, true_and, and_true, and_false, false_and, not_true_eq_false, not_false_eq_true, if_true, if_false, eq_self, ma_b0, Bool.false_eq_true, Bool.true_eq_false, reduceCtorEq], ma_q_t hq q3⟩
      · obtain ⟨m, hm, rfl⟩ := ma_at_ex (by omega) qz
        obtain ⟨g, e3, q3, B⟩ := e2 _ hq
        obtain ⟨g2, l1, l2⟩ := m_287l (N := N) B.1 B.2.1 O OT (show i < 6 by omega) hm hN t
        have inv : (sp_bu K i m).1 ≤ 60 ∧ (sp_bu K i m).2 ≤ 6 ∧ ((sp_bu K i m).1 = 0 ↔ (sp_bu K i m).2 = 0) := sp_bu_i K i m 6
        have c11 : f_11 N h c (nI i) 63 = some (nI (sp_pt K i 63)) := c_11 H V O (show i < 6 by omega) (s := 63) (by decide) hN
        have le : sp_pt K i 63 ≤ 6 := sp_pt_le O _ _
        have eq : (nI (sp_pt K i 63) = nI m) ↔ sp_pt K i 63 = m := nI_eq (by omega) (by omega)
        refine ⟨if t = 0 then mI (sp_bu K i m).1 else mI (sp_bu K i m).2, g2, ?_, ?_, ma_q_t hq (ma_q_t q3 (ma_q_fr l2 (by decide)))⟩
        · have r : f_25 N h c (nI i) (nI m) t = some (if t = 0 then mI (sp_bu K i m).1 else mI (sp_bu K i m).2) := by
            simp only [f_25, if_pos (wv_is H V.1), c11, Option.bind_some]
            by_cases q : sp_pt K i 63 = m
            · rw [if_neg (fun z => z (eq.mpr q)), sp_bu_1 q]
              split <;> rfl
            · rw [if_pos (fun z => q (eq.mp z)), c_25l H V O OT (show i < 6 by omega) hm q hN]
              by_cases q2 : t = 0 <;> simp [q2]
          simp only [f_154, if_pos (mi_0 H), mr_0_0 H, Option.bind_some, if_pos (mi_1 H), e1, if_pos (wv_is H V.1), c_4 H V, c_3 H V, qm, qz, r, i10, i01, true_or, or_true, false_or, or_false, true_and, and_true, and_false, false_and, not_true_eq_false, not_false_eq_true, if_true, if_false, eq_self, ma_b0, Bool.false_eq_true, Bool.true_eq_false, reduceCtorEq]
        · have e9 : (mI (sp_bu K i m).2 = -1) = ((sp_bu K i m).2 = 0) := propext (mE _ (by omega))
          simp only [f_287, if_pos (mi_217 H), e3, Option.bind_some, if_pos (mi_217 B.1), m_201 B.1 B.2.1 O, m_200 B.1 B.2.1 O, qm, qz, l1, e9, i10, i01, true_or, or_true, false_or, or_false, true_and, and_true, and_false, false_and, not_true_eq_false, not_false_eq_true, if_true, if_false, eq_self, ma_b0, Bool.false_eq_true, Bool.true_eq_false, reduceCtorEq]
          by_cases q : (sp_bu K i m).2 = 0
          · rw [inv.2.2.mpr q, q]
            simp
          · have q2 := fun z => q (inv.2.2.mp z)
            obtain ⟨w, hw⟩ : ∃ w, (sp_bu K i m).1 = w + 1 := ⟨(sp_bu K i m).1 - 1, by omega⟩
            rw [hw, mI_s]
            simp only [if_neg q]
            by_cases q3 : t = 0
            · simp only [if_pos q3]; rfl
            · simp only [if_neg q3]
end

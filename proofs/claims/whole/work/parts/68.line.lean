/-! text: lines, what they say, what is wrong with them -/
def sp_nc (l : Nat) : Nat := [1, 2, 2, 2, 3, 2, 2, 2, 3, 1, 0, 0, 2, 2].getD l 0
def tx_hi (l k : Nat) : Nat := (pb_S3.getD (3 * l + k) 0).toNatClampNeg
def tx_lo (l k : Nat) : Nat := if l = 8 ∧ k = 2 then 1 else 0
theorem sp_S3 : ∀ l, l < 14 → sp_nc l ≤ 3 ∧ ∀ k, k < 3 → (k < sp_nc l → pb_S3.getD (3 * l + k) 0 = nI (tx_hi l k) ∧ tx_hi l k ≤ 63) ∧ (k = sp_nc l → pb_S3.getD (3 * l + k) 0 = -1) := by decide +kernel
/-- where the k-th token behind e begins to be looked for -/
def sp_te (B : Nat → Int32) (n e : Nat) : Nat → Nat
  | 0 => e
  | k + 1 => (sp_tk B n (sp_te B n e k)).2.2
def sp_tn (B : Nat → Int32) (n e k : Nat) : Nat × Nat × Nat := sp_tk B n (sp_te B n e k)
def sp_vl (B : Nat → Int32) (n e k : Nat) : Nat := sp_vm B (sp_tn B n e k).2.1 ((sp_tn B n e k).2.2 - (sp_tn B n e k).2.1)
def sp_gd (B : Nat → Int32) (n e l k : Nat) : Bool := decide (tx_lo l k ≤ sp_vl B n e k) && decide (sp_vl B n e k ≤ tx_hi l k)
/-- the first of c tokens that is no number; c if all are -/
def sp_nb (B : Nat → Int32) (n e c : Nat) : Nat := ma_fi (fun k => (sp_tn B n e k).1 != 2) c 0
/-- a fault is met: its number, its place + 1 -/
def sp_bl (p : Nat × Nat) (f a : Nat) : Nat × Nat := if p.1 = 0 then (f, a + 1) else p
def sp_fn (B : Nat → Int32) (n e l : Nat) (p : Nat × Nat) (k : Nat) : Nat × Nat := ma_fo (fun j a => if sp_gd B n e l j then a else sp_bl a 2 (sp_tn B n e j).2.1) k p
theorem sp_te_le {B : Nat → Int32} {n e : Nat} (h : e ≤ n) : ∀ k, sp_te B n e k ≤ n
  | 0 => h
  | k + 1 => (sp_tk_b (B := B) (sp_te_le h k)).2.2.1
theorem sp_te_mo {B : Nat → Int32} {n e : Nat} (h : e ≤ n) (k : Nat) : sp_te B n e k ≤ sp_te B n e (k + 1) := by
  have b := sp_tk_b (B := B) (sp_te_le (B := B) h k)
  show _ ≤ (sp_tk B n (sp_te B n e k)).2.2
  by_cases c : (sp_tk B n (sp_te B n e k)).1 = 0
  · have := b.2.2.2.2.1 c; have := b.2.1; have := b.1; omega
  · have := b.2.2.2.2.2 c; have := b.1; omega
theorem sp_te_m2 {B : Nat → Int32} {n e : Nat} (h : e ≤ n) (k : Nat) : ∀ j, sp_te B n e k ≤ sp_te B n e (k + j)
  | 0 => Nat.le_refl _
  | j + 1 => Nat.le_trans (sp_te_m2 h k j) (sp_te_mo h (k + j))
theorem sp_vm_lt {B : Nat → Int32} {a m : Nat} (hm : m ≤ 2) (hD : ∀ j, a ≤ j → j < a + m → sp_D (B j) = true ∧ (B j).toInt8.toInt32 = B j) : sp_vm B a m ≤ 99 := by
  have y : ∀ j, a ≤ j → j < a + m → 48 ≤ (B j).toNatClampNeg ∧ (B j).toNatClampNeg ≤ 57 := fun j p q => ((tx_b (hD j p q).2).2.2.2.2.2.2.2 (hD j p q).1).2.2
  unfold sp_vm
  split
  · omega
  · split
    · have := y a (by omega) (by omega); omega
    · have := y a (by omega) (by omega)
      have := y (a + 1) (by omega) (by omega)
      omega
theorem sp_vl_lt {B : Nat → Int32} {n e k : Nat} (hB : ∀ j, j < n → (B j).toInt8.toInt32 = B j) (h : e ≤ n) (t : (sp_tn B n e k).1 = 2) : sp_vl B n e k ≤ 99 := by
  have l := sp_te_le (B := B) h k
  have q := sp_tk_2 l t
  have b := sp_tk_b (B := B) l
  unfold sp_vl
  unfold sp_tn at t ⊢
  refine sp_vm_lt q.1 (fun j x y => ⟨q.2 j x (by omega), hB j (by omega)⟩)
theorem sp_nb_b (B : Nat → Int32) (n e c : Nat) : sp_nb B n e c ≤ c ∧ (∀ k, k < sp_nb B n e c → (sp_tn B n e k).1 = 2) ∧ (sp_nb B n e c < c → (sp_tn B n e (sp_nb B n e c)).1 ≠ 2) := by
  have f := ma_fi_sp (fun k => (sp_tn B n e k).1 != 2) c 0
  unfold sp_nb
  generalize ma_fi (fun k => (sp_tn B n e k).1 != 2) c 0 = r at *
  refine ⟨by omega, fun k hk => ?_, fun hk => ?_⟩
  · have := f.2.2.1 k (by omega) hk
    simpa using this
  · have := f.2.2.2 (by omega)
    simpa using this
/-! what is told by lines: a county, how many men and children it needs, deeds, facts -/
abbrev tx_T : Type := ma_K × (Nat × Nat) × ma_Y × ma_Y
def tx_u (K : ma_K) (a b x : Nat) : ma_K := fun i j => if i = a ∧ j = b then x else K i j
def tx_row (Y : ma_Y) (d : Nat → Int32) : ma_Y := (Y.1 + 1, fun j => if j = Y.1 then d else Y.2 j)
def tx_nu (v : Nat → Nat) (c k : Nat) : Int32 := if k < c then nI (v k) else -1
def tx_dd (q : Nat) (v : Nat → Nat) (c : Nat) : Nat → Int32 := fun i => if i = 0 then nI q else tx_nu v c (i - 1)
def tx_mx (a b : Nat) : Nat := if a < b then b else a
def tx_st (l : Nat) (v : Nat → Nat) (D : tx_T) : tx_T :=
  if l = 0 then (tx_u (tx_u D.1 1 (D.1 0 0) (v 0)) 0 0 (D.1 0 0 + 1), D.2)
  else if l = 1 then (tx_u (tx_u (tx_u D.1 3 (D.1 0 1) (v 0)) 4 (D.1 0 1) (v 1)) 0 1 (D.1 0 1 + 1), D.2)
  else if l = 2 then (tx_u D.1 2 (v 0) (D.1 2 (v 0) ||| 2 ^ v 1), (tx_mx D.2.1.1 (v 0 + 1), D.2.1.2), D.2.2)
  else if l = 3 then (tx_u D.1 5 (v 0) (D.1 5 (v 0) ||| 2 ^ v 1), (D.2.1.1, tx_mx D.2.1.2 (v 0 + 1)), D.2.2)
  else if l = 4 then (tx_u D.1 6 (6 * v 0 + v 1) (v 2), (D.2.1.1, tx_mx D.2.1.2 (v 0 + 1)), D.2.2)
  else if l < 12 then (D.1, D.2.1, tx_row D.2.2.1 (tx_dd (l - 5) v (sp_nc l)), D.2.2.2)
  else (D.1, D.2.1, D.2.2.1, tx_row D.2.2.2 (tx_dd (l - 12) v (sp_nc l)))
def tx_fu (D : tx_T) (l : Nat) : Bool := if l = 0 then decide (6 ≤ D.1 0 0) else if l = 1 then decide (6 ≤ D.1 0 1) else if l < 5 then false else if l < 12 then decide (40 ≤ D.2.2.1.1) else decide (8 ≤ D.2.2.2.1)
def tx_G (D : tx_T) : Prop := D.1 0 0 ≤ 6 ∧ D.1 0 1 ≤ 6 ∧ (∀ k, D.1 1 k ≤ 9 ∧ D.1 2 k < 64 ∧ D.1 3 k ≤ 20 ∧ D.1 4 k ≤ 30 ∧ D.1 5 k < 64 ∧ D.1 6 k ≤ 9) ∧ D.2.1.1 ≤ 6 ∧ D.2.1.2 ≤ 6 ∧ (∀ m, D.2.1.1 ≤ m → D.1 2 m = 0) ∧ (∀ m, D.2.1.2 ≤ m → D.1 5 m = 0) ∧ (D.2.2.1.1 ≤ 40 ∧ ∀ j, j < D.2.2.1.1 → ma_gd (D.2.2.1.2 j)) ∧ D.2.2.2.1 ≤ 8 ∧ ∀ j, j < D.2.2.2.1 → ma_gf (D.2.2.2.2 j)
theorem tx_u_e (K : ma_K) (a b x : Nat) : tx_u K a b x a b = x := if_pos ⟨rfl, rfl⟩
theorem tx_u_n (K : ma_K) {a b x i j : Nat} (h : ¬ (i = a ∧ j = b)) : tx_u K a b x i j = K i j := if_neg h
theorem tx_or {a b : Nat} (ha : a < 64) (hb : b ≤ 5) : a ||| 2 ^ b < 64 := by
  have : (2 : Nat) ^ b < 2 ^ 6 := Nat.pow_lt_pow_right (by decide) (by omega)
  exact Nat.or_lt_two_pow (n := 6) ha this
/-- a line's numbers can be -/
def tx_ok (l : Nat) (v : Nat → Nat) : Prop := ∀ k, k < sp_nc l → tx_lo l k ≤ v k ∧ v k ≤ tx_hi l k
theorem tx_st_G {D : tx_T} {l : Nat} {v : Nat → Nat} (G : tx_G D) (hl : l < 14) (ok : tx_ok l v) (nf : tx_fu D l = false) : tx_G (tx_st l v D) := by
  obtain ⟨g1, g2, g3, g4, g5, g6, g7, ⟨g8, g9⟩, g10, g11⟩ := G
  have hh : ∀ l k, tx_hi l k = (pb_S3.getD (3 * l + k) 0).toNatClampNeg := fun _ _ => rfl
  unfold tx_st
  split
  · rename_i c; subst c
    have o0 : v 0 ≤ 9 := (ok 0 (by decide)).2
    have nf : D.1 0 0 < 6 := by unfold tx_fu at nf; simp at nf; exact nf
    refine ⟨?_, ?_, fun k => ?_, g4, g5, fun m hm => ?_, fun m hm => ?_, ⟨g8, g9⟩, g10, g11⟩
    · dsimp only
      rw [tx_u_e]; omega
    · dsimp only
      rw [tx_u_n _ (by omega), tx_u_n _ (by omega)]; exact g2
    · have := g3 k
      refine ⟨?_, ?_, ?_, ?_, ?_, ?_⟩
      · dsimp only
        rw [tx_u_n _ (by omega)]; unfold tx_u; split <;> omega
      all_goals (dsimp only; rw [tx_u_n _ (by omega), tx_u_n _ (by omega)]; omega)
    · dsimp only
      rw [tx_u_n _ (by omega), tx_u_n _ (by omega)]; exact g6 m hm
    · dsimp only
      rw [tx_u_n _ (by omega), tx_u_n _ (by omega)]; exact g7 m hm
  · split
    · rename_i c; subst c
      have o0 : v 0 ≤ 20 := (ok 0 (by decide)).2
      have o1 : v 1 ≤ 30 := (ok 1 (by decide)).2
      have nf : D.1 0 1 < 6 := by unfold tx_fu at nf; simp at nf; exact nf
      refine ⟨?_, ?_, fun k => ?_, g4, g5, fun m hm => ?_, fun m hm => ?_, ⟨g8, g9⟩, g10, g11⟩
      · dsimp only
        rw [tx_u_n _ (by omega), tx_u_n _ (by omega), tx_u_n _ (by omega)]; exact g1
      · dsimp only
        rw [tx_u_e]; omega
      · have := g3 k
        refine ⟨?_, ?_, ?_, ?_, ?_, ?_⟩
        · dsimp only
          rw [tx_u_n _ (by omega), tx_u_n _ (by omega), tx_u_n _ (by omega)]; omega
        · dsimp only
          rw [tx_u_n _ (by omega), tx_u_n _ (by omega), tx_u_n _ (by omega)]; omega
        · dsimp only
          rw [tx_u_n _ (by omega), tx_u_n _ (by omega)]; unfold tx_u; split <;> omega
        · dsimp only
          rw [tx_u_n _ (by omega)]; unfold tx_u; split
          · omega
          · rw [if_neg (by omega)]; omega
        · dsimp only
          rw [tx_u_n _ (by omega), tx_u_n _ (by omega), tx_u_n _ (by omega)]; omega
        · dsimp only
          rw [tx_u_n _ (by omega), tx_u_n _ (by omega), tx_u_n _ (by omega)]; omega
      · dsimp only
        rw [tx_u_n _ (by omega), tx_u_n _ (by omega), tx_u_n _ (by omega)]; exact g6 m hm
      · dsimp only
        rw [tx_u_n _ (by omega), tx_u_n _ (by omega), tx_u_n _ (by omega)]; exact g7 m hm
    · split
      · rename_i c; subst c
        have o0 : v 0 ≤ 5 := (ok 0 (by decide)).2
        have o1 : v 1 ≤ 5 := (ok 1 (by decide)).2
        refine ⟨?_, ?_, fun k => ?_, ?_, g5, fun m hm => ?_, fun m hm => ?_, ⟨g8, g9⟩, g10, g11⟩
        · dsimp only
          rw [tx_u_n _ (by omega)]; exact g1
        · dsimp only
          rw [tx_u_n _ (by omega)]; exact g2
        · have := g3 k
          refine ⟨?_, ?_, ?_, ?_, ?_, ?_⟩
          · dsimp only
            rw [tx_u_n _ (by omega)]; omega
          · dsimp only
            have := tx_or (g3 (v 0)).2.1 o1
            unfold tx_u; split <;> omega
          all_goals (dsimp only; rw [tx_u_n _ (by omega)]; omega)
        · show tx_mx _ _ ≤ 6
          unfold tx_mx; split <;> omega
        · have hm : tx_mx D.2.1.1 (v 0 + 1) ≤ m := hm
          dsimp only
          unfold tx_mx at hm
          rw [tx_u_n _ (by split at hm <;> omega)]
          exact g6 m (by split at hm <;> omega)
        · dsimp only
          rw [tx_u_n _ (by omega)]; exact g7 m hm
      · split
        · rename_i c; subst c
          have o0 : v 0 ≤ 5 := (ok 0 (by decide)).2
          have o1 : v 1 ≤ 5 := (ok 1 (by decide)).2
          refine ⟨?_, ?_, fun k => ?_, g4, ?_, fun m hm => ?_, fun m hm => ?_, ⟨g8, g9⟩, g10, g11⟩
          · dsimp only
            rw [tx_u_n _ (by omega)]; exact g1
          · dsimp only
            rw [tx_u_n _ (by omega)]; exact g2
          · have := g3 k
            refine ⟨?_, ?_, ?_, ?_, ?_, ?_⟩
            · dsimp only
              rw [tx_u_n _ (by omega)]; omega
            · dsimp only
              rw [tx_u_n _ (by omega)]; omega
            · dsimp only
              rw [tx_u_n _ (by omega)]; omega
            · dsimp only
              rw [tx_u_n _ (by omega)]; omega
            · dsimp only
              have := tx_or (g3 (v 0)).2.2.2.2.1 o1
              unfold tx_u; split <;> omega
            · dsimp only
              rw [tx_u_n _ (by omega)]; omega
          · show tx_mx _ _ ≤ 6
            unfold tx_mx; split <;> omega
          · dsimp only
            rw [tx_u_n _ (by omega)]; exact g6 m hm
          · have hm : tx_mx D.2.1.2 (v 0 + 1) ≤ m := hm
            dsimp only
            unfold tx_mx at hm
            rw [tx_u_n _ (by split at hm <;> omega)]
            exact g7 m (by split at hm <;> omega)
        · split
          · rename_i c; subst c
            have o0 : v 0 ≤ 5 := (ok 0 (by decide)).2
            have o2 : v 2 ≤ 9 := (ok 2 (by decide)).2
            refine ⟨?_, ?_, fun k => ?_, g4, ?_, fun m hm => ?_, fun m hm => ?_, ⟨g8, g9⟩, g10, g11⟩
            · dsimp only
              rw [tx_u_n _ (by omega)]; exact g1
            · dsimp only
              rw [tx_u_n _ (by omega)]; exact g2
            · have := g3 k
              refine ⟨?_, ?_, ?_, ?_, ?_, ?_⟩
              · dsimp only
                rw [tx_u_n _ (by omega)]; omega
              · dsimp only
                rw [tx_u_n _ (by omega)]; omega
              · dsimp only
                rw [tx_u_n _ (by omega)]; omega
              · dsimp only
                rw [tx_u_n _ (by omega)]; omega
              · dsimp only
                rw [tx_u_n _ (by omega)]; omega
              · dsimp only
                unfold tx_u; split <;> omega
            · show tx_mx _ _ ≤ 6
              unfold tx_mx; split <;> omega
            · dsimp only
              rw [tx_u_n _ (by omega)]; exact g6 m hm
            · have hm : tx_mx D.2.1.2 (v 0 + 1) ≤ m := hm
              dsimp only
              unfold tx_mx at hm
              rw [tx_u_n _ (by omega)]
              exact g7 m (by split at hm <;> omega)
          · split
            · rename_i n0 n1 n2 n3 n4 c
              have nf : D.2.2.1.1 < 40 := by
                unfold tx_fu at nf
                rw [if_neg n0, if_neg n1, if_neg (by omega), if_pos c] at nf
                simpa using nf
              refine ⟨g1, g2, g3, g4, g5, g6, g7, ⟨?_, fun j hj => ?_⟩, g10, g11⟩
              · show D.2.2.1.1 + 1 ≤ 40
                omega
              · have hj : j < D.2.2.1.1 + 1 := hj
                show ma_gd (if j = D.2.2.1.1 then _ else D.2.2.1.2 j)
                split
                · have T : ∀ l, l < 12 → 5 ≤ l → (l - 5 < 5 → 0 < sp_nc l ∧ tx_hi l 0 = 5) ∧ (l - 5 < 4 → 1 < sp_nc l ∧ tx_hi l 1 = 5) ∧ (l - 5 = 3 → 2 < sp_nc l ∧ tx_hi l 2 = 9 ∧ tx_lo l 2 = 1) := by decide +kernel
                  have t := T l c (by omega)
                  refine ⟨l - 5, rfl, by omega, fun q => ⟨v 0, ?_, ?_⟩, fun q => ⟨v 1, ?_, ?_⟩, fun q => ⟨v 2, ?_, ?_, ?_⟩⟩
                  · have := t.1 q; have := ok 0 (by omega); omega
                  · show tx_nu v (sp_nc l) 0 = _
                    exact if_pos (t.1 q).1
                  · have := t.2.1 q; have := ok 1 (by omega); omega
                  · show tx_nu v (sp_nc l) 1 = _
                    exact if_pos (t.2.1 q).1
                  · have := t.2.2 q; have := ok 2 (by omega); omega
                  · have := t.2.2 q; have := ok 2 (by omega); omega
                  · show tx_nu v (sp_nc l) 2 = _
                    exact if_pos (t.2.2 q).1
                · exact g9 j (by omega)
            · rename_i n0 n1 n2 n3 n4 c
              have nf : D.2.2.2.1 < 8 := by
                unfold tx_fu at nf
                rw [if_neg n0, if_neg n1, if_neg (by omega), if_neg c] at nf
                simpa using nf
              refine ⟨g1, g2, g3, g4, g5, g6, g7, ⟨g8, g9⟩, ?_, fun j hj => ?_⟩
              · show D.2.2.2.1 + 1 ≤ 8
                omega
              · have hj : j < D.2.2.2.1 + 1 := hj
                show ma_gf (if j = D.2.2.2.1 then _ else D.2.2.2.2 j)
                split
                · have e : l = 12 ∨ l = 13 := by omega
                  have T : sp_nc l = 2 ∧ tx_hi l 0 = 63 ∧ tx_hi l 1 = 63 := by rcases e with e | e <;> subst e <;> decide +kernel
                  have a := ok 0 (by omega)
                  have b := ok 1 (by omega)
                  refine ⟨l - 12, v 0, v 1, rfl, by omega, ?_, by omega, ?_, by omega⟩
                  · show tx_nu v (sp_nc l) 0 = _
                    exact if_pos (by omega)
                  · show tx_nu v (sp_nc l) 1 = _
                    exact if_pos (by omega)
                · exact g11 j (by omega)

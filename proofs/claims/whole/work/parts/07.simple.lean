theorem pb_eok_spec {ow pc n a b : Nat} {ini : Bool} {cc : ByteArray} {i : Instr} (h : pb_eok ow ini cc pc (i, n, a, b) = true) : decode cc pc = .ok (i, n) ∧ (match i with | .tableswitch _ _ _ _ => True | _ => n = pb_len i) ∧ pb_ek ow ini pc i n a b = true := by
  unfold pb_eok at h
  obtain ⟨h1, h2⟩ := (Bool.and_eq_true _ _).mp h
  obtain ⟨h3, h4⟩ := (Bool.and_eq_true _ _).mp h2
  refine ⟨?_, ?_, h4⟩
  · cases hd : decode cc pc with
    | error x => rw [hd] at h1; cases h1
    | ok q =>
      rw [hd] at h1
      exact congrArg _ (of_decide_eq_true h1)
  · cases i <;> first | exact trivial | exact Nat.eq_of_beq_eq_true h3
section PbSimple
variable {p : Program} {l : Launch} {e : Env} {R : Room} {s : State} {m : MethodId} {args : Array Value} {below : List Frame} {meth : Method} {c : Code} {H : Heap} {locs : List Loc} {cells slots : Nat} {Q : State → Prop} {cc : ByteArray} {mL base : Nat} {cst : Nat → Nat}
/-- the rows outside: where they lie (cst), what the static fields hold -/
def pb_ZX (cst : Nat → Nat) (A : Nat → Prop) (U : State) (H : Heap) : Prop := ∀ k, 1 ≤ k → k ≤ 4 → va_Z (pb_GN k).1 (pb_GN k).2 "[I" (.ref (cst k)) A U H
set_option maxHeartbeats 4000000 in
theorem pb_s1_W {A : Nat → Prop} {ow pc n a b : Nat} {ini : Bool} {i : Instr} {ls ls' : pb_LS} {st st' : List Value} {lsA : Array Slot} (hx : p.tables.exec = Jvm.exec) (hb : c.code = cc) (hown : s.vm.findClass (pb_own ow) = some m.cls) (hts : ∀ w ∈ pb_tbl, w.before args s = true) (how : ow < 16)
    (hS : va_S A s.heap H locs) (hZ : pb_ZX cst A s s.heap) (hW : ow = 6 → decode cc pc = .ok (.ldc 134, 2) → (∀ lsA, W p l e R s m args below meth c H locs cells slots Q (F0 m (pc + 2) lsA (.ref (cst 9) :: st.map (pb_vv base cst))) → W p l e R s m args below meth c H locs cells slots Q (F0 m pc lsA (st.map (pb_vv base cst)))))
    (hok : pb_eok ow ini cc pc (i, n, a, b) = true) (h1 : pb_s1 i a b mL ls st = some (ls', st'))
    (k : ∀ lsA : Array Slot, lv_has lsA mL (ls'.map (pb_vp base cst)) → W p l e R s m args below meth c H locs cells slots Q (F0 m (pc + n) lsA (st'.map (pb_vv base cst)))) (hl : lv_has lsA mL (ls.map (pb_vp base cst))) :
    W p l e R s m args below meth c H locs cells slots Q (F0 m pc lsA (st.map (pb_vv base cst))) := by
  obtain ⟨hd, hn, hk⟩ := pb_eok_spec hok
  cases i
  case iconst z =>
    have hn : n = 1 := hn
    subst hn
    cases h1
    exact lv_iconst hx hb hd (of_decide_eq_true hk) (k lsA hl)
  case bipush z =>
    have hn : n = 2 := hn
    subst hn
    cases h1
    exact lv_bipush hx hb hd (of_decide_eq_true hk) (k lsA hl)
  case sipush z =>
    have hn : n = 3 := hn
    subst hn
    cases h1
    exact lv_sipush hx hb hd (of_decide_eq_true hk) (k lsA hl)
  case lconst z =>
    have hn : n = 1 := hn
    subst hn
    cases h1
    exact lv_lconst hx hb hd rfl (k lsA hl)
  case ldc z =>
    have hn : n = 2 := hn
    subst hn
    simp only [pb_s1] at h1
    split at h1
    · cases h1
      exact lv_ldc hx hb hown (hts _ (pb_tbl_in (pb_ic_mem how hk) rfl)) hd (k lsA hl)
    · cases h1
      rename_i hb0
      have hk : (Nat.beq a 9 && (Nat.beq ow 6 && Nat.beq z 134)) = true := by
        cases b with
        | zero => exact absurd rfl hb0
        | succ b2 => exact hk
      obtain ⟨e1, e2⟩ := (Bool.and_eq_true _ _).mp hk
      obtain ⟨e4, e5⟩ := (Bool.and_eq_true _ _).mp e2
      have f1 := Nat.eq_of_beq_eq_true e1
      have f2 := Nat.eq_of_beq_eq_true e4
      have f3 := Nat.eq_of_beq_eq_true e5
      subst f1
      subst f3
      exact hW f2 hd lsA (k lsA hl)
  case ldc_w z =>
    have hn : n = 3 := hn
    subst hn
    simp only [pb_s1] at h1
    split at h1
    · cases h1
      exact lv_ldcw hx hb hown (hts _ (pb_tbl_in (pb_ic_mem how hk) rfl)) hd (k lsA hl)
    · cases h1
  case ldc2_w z =>
    have hn : n = 3 := hn
    subst hn
    cases h1
    exact lv_ldc2 hx hb hown (hts _ (pb_tbl_in (pb_lc_mem how hk) rfl)) hd (k lsA hl)
  case aconst_null =>
    have hn : n = 1 := hn
    subst hn
    cases h1
    exact lv_null hx hb hd (k lsA hl)
  case getstatic z =>
    have hn : n = 3 := hn
    subst hn
    cases h1
    obtain ⟨hr, hmem⟩ := pb_gs_mem how hk
    exact va_gets hx hb (hZ a hr.1 hr.2) hS hown (hts _ (pb_tbl_in hmem rfl)) (fun _ h9 => h9) hd (k lsA hl)
  case iload z =>
    have hn : n = 2 := hn
    subst hn
    simp only [pb_s1] at h1
    split at h1
    · rename_i hlk
      cases h1
      exact lv_iload hx hb hd (pb_lk_at hlk hl) (k lsA hl)
    · cases h1
  case iload_n z =>
    have hn : n = 1 := hn
    subst hn
    simp only [pb_s1] at h1
    split at h1
    · rename_i hlk
      cases h1
      exact lv_iload_n hx hb hd rfl (pb_lk_at hlk hl) (k lsA hl)
    · cases h1
  case lload z =>
    have hn : n = 2 := hn
    subst hn
    simp only [pb_s1] at h1
    split at h1
    · rename_i hlk
      cases h1
      exact lv_lload hx hb hd (pb_lk_at hlk hl) (k lsA hl)
    · cases h1
  case lload_n z =>
    have hn : n = 1 := hn
    subst hn
    simp only [pb_s1] at h1
    split at h1
    · rename_i hlk
      cases h1
      exact lv_lload_n hx hb hd rfl (pb_lk_at hlk hl) (k lsA hl)
    · cases h1
  case aload z =>
    have hn : n = 2 := hn
    subst hn
    simp only [pb_s1] at h1
    split at h1
    · rename_i hlk
      cases h1
      exact lv_aload hx hb hd (pb_lk_at hlk hl) (k lsA hl)
    · rename_i hlk
      cases h1
      exact lv_aload hx hb hd (pb_lk_at hlk hl) (k lsA hl)
    · rename_i hlk
      cases h1
      exact lv_aloadN hx hb hd (pb_lk_at hlk hl) (k lsA hl)
    · cases h1
  case aload_n z =>
    have hn : n = 1 := hn
    subst hn
    simp only [pb_s1] at h1
    split at h1
    · rename_i hlk
      cases h1
      exact lv_aload_n hx hb hd rfl (pb_lk_at hlk hl) (k lsA hl)
    · rename_i hlk
      cases h1
      exact lv_aload_n hx hb hd rfl (pb_lk_at hlk hl) (k lsA hl)
    · rename_i hlk
      cases h1
      exact lv_aload_nN hx hb hd rfl (pb_lk_at hlk hl) (k lsA hl)
    · cases h1
  case istore z =>
    have hn : n = 2 := hn
    subst hn
    simp only [pb_s1] at h1
    split at h1
    · split at h1
      · rename_i hlt
        cases h1
        exact lv_istore hx hb hd hl (Nat.le_of_ble_eq_true hlt) rfl (fun ls2 hl2 => k ls2 (pb_sub1 hl2))
      · cases h1
    · cases h1
  case istore_n z =>
    have hn : n = 1 := hn
    subst hn
    simp only [pb_s1] at h1
    split at h1
    · split at h1
      · rename_i hlt
        cases h1
        exact lv_istore_n hx hb hd rfl hl (Nat.le_of_ble_eq_true hlt) rfl (fun ls2 hl2 => k ls2 (pb_sub1 hl2))
      · cases h1
    · cases h1
  case lstore z =>
    have hn : n = 2 := hn
    subst hn
    simp only [pb_s1] at h1
    split at h1
    · split at h1
      · rename_i hlt
        cases h1
        exact lv_lstore hx hb hd hl (Nat.le_of_ble_eq_true hlt) rfl (fun ls2 hl2 => k ls2 (pb_sub2 hl2))
      · cases h1
    · cases h1
  case lstore_n z =>
    have hn : n = 1 := hn
    subst hn
    simp only [pb_s1] at h1
    split at h1
    · split at h1
      · rename_i hlt
        cases h1
        exact lv_lstore_n hx hb hd rfl hl (Nat.le_of_ble_eq_true hlt) rfl (fun ls2 hl2 => k ls2 (pb_sub2 hl2))
      · cases h1
    · cases h1
  case astore z =>
    have hn : n = 2 := hn
    subst hn
    simp only [pb_s1] at h1
    split at h1
    · split at h1
      · rename_i hlt
        cases h1
        exact lv_astore hx hb hd hl (Nat.le_of_ble_eq_true hlt) rfl (fun ls2 hl2 => k ls2 (pb_sub1 hl2))
      · cases h1
    · split at h1
      · rename_i hlt
        cases h1
        exact lv_astoreN hx hb hd hl (Nat.le_of_ble_eq_true hlt) rfl (fun ls2 hl2 => k ls2 (pb_sub1 hl2))
      · cases h1
    · cases h1
  case astore_n z =>
    have hn : n = 1 := hn
    subst hn
    simp only [pb_s1] at h1
    split at h1
    · split at h1
      · rename_i hlt
        cases h1
        exact lv_astore_n hx hb hd rfl hl (Nat.le_of_ble_eq_true hlt) rfl (fun ls2 hl2 => k ls2 (pb_sub1 hl2))
      · cases h1
    · split at h1
      · rename_i hlt
        cases h1
        exact lv_astore_nN hx hb hd rfl hl (Nat.le_of_ble_eq_true hlt) rfl (fun ls2 hl2 => k ls2 (pb_sub1 hl2))
      · cases h1
    · cases h1
  case iinc z z2 =>
    have hn : n = 3 := hn
    subst hn
    simp only [pb_s1] at h1
    split at h1
    · rename_i hlk
      split at h1
      · rename_i hlt
        cases h1
        obtain ⟨q, hq⟩ := List.getElem?_of_mem (List.mem_map.mpr ⟨_, pb_lk_mem hlk, rfl⟩ : _ ∈ ls.map (pb_vp base cst))
        exact lv_iinc hx hb hd hl hq (by rw [of_decide_eq_true hk]) (Nat.le_of_ble_eq_true hlt) rfl (fun ls2 hl2 => k ls2 (pb_sub1 hl2))
      · cases h1
    · cases h1
  case iadd =>
    have hn : n = 1 := hn
    subst hn
    simp only [pb_s1] at h1
    split at h1
    · cases h1; exact lv_iadd hx hb hd (k lsA hl)
    · cases h1
  case isub =>
    have hn : n = 1 := hn
    subst hn
    simp only [pb_s1] at h1
    split at h1
    · cases h1; exact lv_isub hx hb hd (k lsA hl)
    · cases h1
  case imul =>
    have hn : n = 1 := hn
    subst hn
    simp only [pb_s1] at h1
    split at h1
    · cases h1; exact lv_imul hx hb hd (k lsA hl)
    · cases h1
  case iand =>
    have hn : n = 1 := hn
    subst hn
    simp only [pb_s1] at h1
    split at h1
    · cases h1; exact lv_iand hx hb hd (k lsA hl)
    · cases h1
  case ior =>
    have hn : n = 1 := hn
    subst hn
    simp only [pb_s1] at h1
    split at h1
    · cases h1; exact lv_ior hx hb hd (k lsA hl)
    · cases h1
  case ixor =>
    have hn : n = 1 := hn
    subst hn
    simp only [pb_s1] at h1
    split at h1
    · cases h1; exact lv_ixor hx hb hd (k lsA hl)
    · cases h1
  case ishl =>
    have hn : n = 1 := hn
    subst hn
    simp only [pb_s1] at h1
    split at h1
    · cases h1; exact lv_ishl hx hb hd (k lsA hl)
    · cases h1
  case ishr =>
    have hn : n = 1 := hn
    subst hn
    simp only [pb_s1] at h1
    split at h1
    · cases h1; exact lv_ishr hx hb hd (k lsA hl)
    · cases h1
  case ineg =>
    have hn : n = 1 := hn
    subst hn
    simp only [pb_s1] at h1
    split at h1
    · cases h1; exact lv_ineg hx hb hd (k lsA hl)
    · cases h1
  case ladd =>
    have hn : n = 1 := hn
    subst hn
    simp only [pb_s1] at h1
    split at h1
    · cases h1; exact lv_ladd hx hb hd (k lsA hl)
    · cases h1
  case lsub =>
    have hn : n = 1 := hn
    subst hn
    simp only [pb_s1] at h1
    split at h1
    · cases h1; exact lv_lsub hx hb hd (k lsA hl)
    · cases h1
  case lmul =>
    have hn : n = 1 := hn
    subst hn
    simp only [pb_s1] at h1
    split at h1
    · cases h1; exact lv_lmul hx hb hd (k lsA hl)
    · cases h1
  case lor =>
    have hn : n = 1 := hn
    subst hn
    simp only [pb_s1] at h1
    split at h1
    · cases h1; exact lv_lor hx hb hd (k lsA hl)
    · cases h1
  case iushr =>
    have hn : n = 1 := hn
    subst hn
    simp only [pb_s1] at h1
    split at h1
    · cases h1; exact lv_iushr hx hb hd rfl (k lsA hl)
    · cases h1
  case lshl =>
    have hn : n = 1 := hn
    subst hn
    simp only [pb_s1] at h1
    split at h1
    · cases h1; exact lv_lshl hx hb hd rfl (k lsA hl)
    · cases h1
  case i2l =>
    have hn : n = 1 := hn
    subst hn
    simp only [pb_s1] at h1
    split at h1
    · cases h1; exact lv_i2l hx hb hd rfl (k lsA hl)
    · cases h1
  case i2b =>
    have hn : n = 1 := hn
    subst hn
    simp only [pb_s1] at h1
    split at h1
    · cases h1; exact lv_i2b hx hb hd rfl (k lsA hl)
    · cases h1
  case lcmp =>
    have hn : n = 1 := hn
    subst hn
    simp only [pb_s1] at h1
    split at h1
    · cases h1; exact W.lcmp hx hb hd (k lsA hl)
    · cases h1
  case dup =>
    have hn : n = 1 := hn
    subst hn
    simp only [pb_s1] at h1
    split at h1
    · cases h1; exact lv_dup hx hb hd rfl (k lsA hl)
    · cases h1; exact lv_dup hx hb hd rfl (k lsA hl)
    · cases h1
  case dup2 =>
    have hn : n = 1 := hn
    subst hn
    simp only [pb_s1] at h1
    split at h1
    · cases h1; exact lv_dup2_11 hx hb hd rfl rfl (k lsA hl)
    · cases h1
  case pop =>
    have hn : n = 1 := hn
    subst hn
    simp only [pb_s1] at h1
    split at h1
    · cases h1; exact lv_pop hx hb hd rfl (k lsA hl)
    · cases h1
  all_goals cases h1
end PbSimple

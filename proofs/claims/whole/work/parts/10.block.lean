theorem pb_fit_i {ty : FieldType} {t : Nat} {v : Int32} (hk : pb_tyk ty = t) (ht : t = 0 ∨ t = 3 ∧ (v = 0 ∨ v = 1)) : narrow ty (.int v) = .int v ∧ fits ty (.int v) = true := by
  rcases ht with q | ⟨q, hv⟩
  · rw [q] at hk
    cases ty <;> first | exact ⟨rfl, rfl⟩ | (simp [pb_tyk] at hk)
  · rw [q] at hk
    cases ty <;> first | (rcases hv with z | z <;> subst z <;> exact ⟨by decide, by decide⟩) | (simp [pb_tyk] at hk)
theorem pb_fit_l {ty : FieldType} {v : Int64} (hk : pb_tyk ty = 1) : narrow ty (.long v) = .long v ∧ fits ty (.long v) = true := by
  cases ty <;> first | exact ⟨rfl, rfl⟩ | (simp [pb_tyk] at hk)
theorem pb_fit_r {ty : FieldType} {v : Nat} (hk : pb_tyk ty = 2) : narrow ty (.ref v) = .ref v ∧ fits ty (.ref v) = true := by
  cases ty <;> first | exact ⟨rfl, rfl⟩ | (simp [pb_tyk] at hk)
theorem pb_E_k {xs : List Int32} {i : Int32} {k : Nat} (h : pb_in i (pb_E xs k).length) : 1 ≤ k ∧ k ≤ 5 := by
  match k, h with
  | 0, h => exact absurd h.2 (Nat.not_lt_zero _)
  | 1, _ => exact ⟨by decide, by decide⟩
  | 2, _ => exact ⟨by decide, by decide⟩
  | 3, _ => exact ⟨by decide, by decide⟩
  | 4, _ => exact ⟨by decide, by decide⟩
  | 5, _ => exact ⟨by decide, by decide⟩
  | k + 6, h => exact absurd h.2 (Nat.not_lt_zero _)
theorem pb_nar_z {f : Nat → Int32} {k : Nat} {v : Int32} {cI : ClassId} {N b : Nat} {ws : va_W} {o : Nat} (hz : v = 0 ∨ v = 1) : ws.set o (b, (.inl (cI, N, .inl (upd f k (vp_nar .boolean v))) : va_E)) = ws.set o (b, .inl (cI, N, .inl (upd f k v))) := by
  have e : vp_nar .boolean v = v := by rcases hz with z | z <;> subst z <;> decide
  rw [e]
theorem pb_ba {a : Nat} {A B : Prop} (h : match a with | 13 => A | 14 => B | _ => False) : (a = 13 ∧ A) ∨ (a = 14 ∧ B) := by
  split at h
  · exact Or.inl ⟨rfl, h⟩
  · exact Or.inr ⟨rfl, h⟩
  · exact False.elim h
set_option maxHeartbeats 16000000 in
set_option maxRecDepth 4000 in
theorem pb_blk {p : Program} {l : Launch} {e : Env} {R : Room} {s : State} {m : MethodId} {args : Array Value} {below : List Frame} {meth : Method} {c : Code} {Q : State → Prop} {cc : ByteArray} {mL ow base : Nat} {cst : Nat → Nat} {dC : Nat → ClassId} {dI : Nat → Nat → Nat} {cA : Nat → ClassId} {xs : List Int32} {d n0 mx rz : Nat} {ini : Bool} {CR : Nat → pb_HP → List Value → Option Value → pb_HP → Prop} {FIN : Option Value → pb_HP → Prop} {G : Nat → pb_LS → List Value → pb_HP → Prop}
    (hG : G = pb_WG p l e R s m args below meth c Q base cst dC dI cA mL n0 mx) (F : pb_FX p R s m args c cc mL ow base cst dC dI cA xs d n0 mx) (hini : ini = true → meth.name = "<init>")
    (hCR : ∀ a h as v h1, CR a h as v h1 → h.1 ≤ h1.1 ∧ (a < 307 → pb_Ct l base cst dC dI cA xs d a h as v h1))
    (hFm : ∀ v h, FIN v h → h.1 ≤ mx)
    (hF : ∀ (i : Instr) (v : Option Value) (pc : Nat) (lsA : Array Slot) (st : List Value) (h : pb_HP) (H : Heap) (locs : List Loc), pb_ret rz i v st → decode cc pc = .ok (i, 1) → FIN v h → n0 ≤ h.1 → va_P (dC, dI) pb_cl (pb_ws base cA h) H → va_S (pb_up base) s.heap H locs → W p l e R s m args below meth c H locs (h.1 - n0) (pb_sl h.1 - pb_sl n0) Q (F0 m pc lsA (st.map (pb_vv base cst))))
    (hLd : ∀ (pc : Nat) (lsA : Array Slot) (st : List Value) (H : Heap) (locs : List Loc) (cells slots : Nat), ow = 6 → decode cc pc = .ok (.ldc 134, 2) → va_S (pb_up base) s.heap H locs → W p l e R s m args below meth c H locs cells slots Q (F0 m (pc + 2) lsA (.ref (cst 9) :: st)) → W p l e R s m args below meth c H locs cells slots Q (F0 m pc lsA st))
    (hCh : ∀ (pc : Nat) (lsA : Array Slot) (st : List Value) (H : Heap) (locs : List Loc) (cells slots : Nat) (i : Int32), ow = 6 → decode cc pc = .ok (.invokevirtual 136, 3) → lsA.size = mL → va_S (pb_up base) s.heap H locs → pb_in i pb_WD.length → cells ≤ R.cells → slots ≤ R.slots → (st.map Value.category).sum ≤ 8 → W p l e R s m args below meth c H locs cells slots Q (F0 m (pc + 3) lsA (.int (pb_WD.getD i.toNatClampNeg 0) :: st)) → W p l e R s m args below meth c H locs cells slots Q (F0 m pc lsA (.int i :: .ref (cst 9) :: st))) :
    ∀ (B : List pb_El) (pc : Nat) (ls : pb_LS) (st : List Value) (h : pb_HP), pb_bok ow ini cc pc B = true → pb_bw CR G FIN mL rz xs B pc ls st h → G pc ls st h := by
  obtain ⟨hx, hb, hml, hown, how, hts, hE, hsz, hRc, hRs, hRf, hRl⟩ := F
  obtain ⟨hK, hZ, hT, hAO, hNw, hSt⟩ := id hE
  have hA : ∀ q, s.heap.size ≤ q → pb_up base q := fun q hq => by show base ≤ q; omega
  have toW : ∀ {pc ls st h}, G pc ls st h → pb_WG p l e R s m args below meth c Q base cst dC dI cA mL n0 mx pc ls st h := fun {_ _ _ _} q => by rw [hG] at q; exact q
  have ofW : ∀ {pc ls st h}, pb_WG p l e R s m args below meth c Q base cst dC dI cA mL n0 mx pc ls st h → G pc ls st h := fun {_ _ _ _} q => by rw [hG]; exact q
  intro B
  induction B with
  | nil => intro pc ls st h _ hw; exact hw
  | cons el r ih =>
  intro pc ls st h hok hw
  obtain ⟨i, n, a, b⟩ := el
  obtain ⟨hok1, hok2⟩ := (Bool.and_eq_true _ _).mp hok
  have hok2 : pb_bok ow ini cc (pc + n) r = true := hok2
  obtain ⟨hd, hn, hk⟩ := pb_eok_spec hok1
  have hs1 : ∀ ls2 st2, pb_s1 i a b mL ls st = some (ls2, st2) → pb_bw CR G FIN mL rz xs r (pc + n) ls2 st2 h → G pc ls st h := by
    intro ls2 st2 h1 hw
    obtain ⟨g1, g2⟩ := toW (ih _ _ _ _ hok2 hw)
    refine ofW ⟨g1, fun hn0 H locs lsA hP hS hl => ?_⟩
    exact pb_s1_W (base := base) (cst := cst) hx hb hown hts how hS hZ (fun e1 e3 lsA k => hLd pc lsA _ H locs _ _ e1 e3 hS k) hok1 h1 (fun lsA hl => g2 hn0 H locs lsA hP hS hl) hl
  cases i
  case goto off =>
    have hn : n = 3 := hn
    subst hn
    have hw : G a ls st h := hw
    obtain ⟨g1, g2⟩ := toW hw
    exact ofW ⟨g1, fun hn0 H locs lsA hP hS hl => lv_goto hx hb hd (of_decide_eq_true hk) (g2 hn0 H locs lsA hP hS hl)⟩
  case ifCond cn off =>
    have hn : n = 3 := hn
    subst hn
    cases st with
    | nil => exact False.elim hw
    | cons v_ st2 =>
      cases v_ with
      | int x =>
        cases cn with
        | eq =>
          have hw : (x = 0 → G a ls st2 h) ∧ (¬ x = 0 → pb_bw CR G FIN mL rz xs r (pc + 3) ls st2 h) := hw
          refine ofW ⟨?_, fun hn0 H locs lsA hP hS hl => lv_if_eq hx hb hd (of_decide_eq_true hk) (fun q => (toW (hw.1 q)).2 hn0 H locs lsA hP hS hl) (fun q => (toW (ih _ _ _ _ hok2 (hw.2 q))).2 hn0 H locs lsA hP hS hl)⟩
          by_cases q : x = 0
          · exact (toW (hw.1 q)).1
          · exact (toW (ih _ _ _ _ hok2 (hw.2 q))).1
        | ne =>
          have hw : (¬ x = 0 → G a ls st2 h) ∧ (¬ (¬ x = 0) → pb_bw CR G FIN mL rz xs r (pc + 3) ls st2 h) := hw
          refine ofW ⟨?_, fun hn0 H locs lsA hP hS hl => lv_if_ne hx hb hd (of_decide_eq_true hk) (fun q => (toW (hw.1 q)).2 hn0 H locs lsA hP hS hl) (fun q => (toW (ih _ _ _ _ hok2 (hw.2 (fun z => z q)))).2 hn0 H locs lsA hP hS hl)⟩
          by_cases q : ¬ x = 0
          · exact (toW (hw.1 q)).1
          · exact (toW (ih _ _ _ _ hok2 (hw.2 q))).1
        | lt =>
          have hw : (x < 0 → G a ls st2 h) ∧ (¬ x < 0 → pb_bw CR G FIN mL rz xs r (pc + 3) ls st2 h) := hw
          refine ofW ⟨?_, fun hn0 H locs lsA hP hS hl => lv_if_lt hx hb hd (of_decide_eq_true hk) (fun q => (toW (hw.1 q)).2 hn0 H locs lsA hP hS hl) (fun q => (toW (ih _ _ _ _ hok2 (hw.2 q))).2 hn0 H locs lsA hP hS hl)⟩
          by_cases q : x < 0
          · exact (toW (hw.1 q)).1
          · exact (toW (ih _ _ _ _ hok2 (hw.2 q))).1
        | ge =>
          have hw : (0 ≤ x → G a ls st2 h) ∧ (¬ 0 ≤ x → pb_bw CR G FIN mL rz xs r (pc + 3) ls st2 h) := hw
          refine ofW ⟨?_, fun hn0 H locs lsA hP hS hl => lv_if_ge hx hb hd (of_decide_eq_true hk) (fun q => (toW (hw.1 q)).2 hn0 H locs lsA hP hS hl) (fun q => (toW (ih _ _ _ _ hok2 (hw.2 q))).2 hn0 H locs lsA hP hS hl)⟩
          by_cases q : 0 ≤ x
          · exact (toW (hw.1 q)).1
          · exact (toW (ih _ _ _ _ hok2 (hw.2 q))).1
        | gt =>
          have hw : (0 < x → G a ls st2 h) ∧ (¬ 0 < x → pb_bw CR G FIN mL rz xs r (pc + 3) ls st2 h) := hw
          refine ofW ⟨?_, fun hn0 H locs lsA hP hS hl => lv_if_gt hx hb hd (of_decide_eq_true hk) (fun q => (toW (hw.1 q)).2 hn0 H locs lsA hP hS hl) (fun q => (toW (ih _ _ _ _ hok2 (hw.2 q))).2 hn0 H locs lsA hP hS hl)⟩
          by_cases q : 0 < x
          · exact (toW (hw.1 q)).1
          · exact (toW (ih _ _ _ _ hok2 (hw.2 q))).1
        | le =>
          have hw : (x ≤ 0 → G a ls st2 h) ∧ (¬ x ≤ 0 → pb_bw CR G FIN mL rz xs r (pc + 3) ls st2 h) := hw
          refine ofW ⟨?_, fun hn0 H locs lsA hP hS hl => lv_if_le hx hb hd (of_decide_eq_true hk) (fun q => (toW (hw.1 q)).2 hn0 H locs lsA hP hS hl) (fun q => (toW (ih _ _ _ _ hok2 (hw.2 q))).2 hn0 H locs lsA hP hS hl)⟩
          by_cases q : x ≤ 0
          · exact (toW (hw.1 q)).1
          · exact (toW (ih _ _ _ _ hok2 (hw.2 q))).1
      | _ => exact False.elim hw
  case if_icmp cn off =>
    have hn : n = 3 := hn
    subst hn
    cases st with
    | nil => exact False.elim hw
    | cons v_ s_ =>
      cases v_ with
      | int y =>
        cases s_ with
        | nil => exact False.elim hw
        | cons v_ st2 =>
          cases v_ with
          | int x =>
            cases cn with
            | eq =>
              have hw : (x = y → G a ls st2 h) ∧ (¬ x = y → pb_bw CR G FIN mL rz xs r (pc + 3) ls st2 h) := hw
              refine ofW ⟨?_, fun hn0 H locs lsA hP hS hl => lv_icmp_eq hx hb hd (of_decide_eq_true hk) (fun q => (toW (hw.1 q)).2 hn0 H locs lsA hP hS hl) (fun q => (toW (ih _ _ _ _ hok2 (hw.2 q))).2 hn0 H locs lsA hP hS hl)⟩
              by_cases q : x = y
              · exact (toW (hw.1 q)).1
              · exact (toW (ih _ _ _ _ hok2 (hw.2 q))).1
            | ne =>
              have hw : (¬ x = y → G a ls st2 h) ∧ (¬ (¬ x = y) → pb_bw CR G FIN mL rz xs r (pc + 3) ls st2 h) := hw
              refine ofW ⟨?_, fun hn0 H locs lsA hP hS hl => lv_icmp_ne hx hb hd (of_decide_eq_true hk) (fun q => (toW (hw.1 q)).2 hn0 H locs lsA hP hS hl) (fun q => (toW (ih _ _ _ _ hok2 (hw.2 (fun z => z q)))).2 hn0 H locs lsA hP hS hl)⟩
              by_cases q : ¬ x = y
              · exact (toW (hw.1 q)).1
              · exact (toW (ih _ _ _ _ hok2 (hw.2 q))).1
            | lt =>
              have hw : (x < y → G a ls st2 h) ∧ (¬ x < y → pb_bw CR G FIN mL rz xs r (pc + 3) ls st2 h) := hw
              refine ofW ⟨?_, fun hn0 H locs lsA hP hS hl => lv_icmp_lt hx hb hd (of_decide_eq_true hk) (fun q => (toW (hw.1 q)).2 hn0 H locs lsA hP hS hl) (fun q => (toW (ih _ _ _ _ hok2 (hw.2 q))).2 hn0 H locs lsA hP hS hl)⟩
              by_cases q : x < y
              · exact (toW (hw.1 q)).1
              · exact (toW (ih _ _ _ _ hok2 (hw.2 q))).1
            | ge =>
              have hw : (y ≤ x → G a ls st2 h) ∧ (¬ y ≤ x → pb_bw CR G FIN mL rz xs r (pc + 3) ls st2 h) := hw
              refine ofW ⟨?_, fun hn0 H locs lsA hP hS hl => lv_icmp_ge hx hb hd (of_decide_eq_true hk) (fun q => (toW (hw.1 q)).2 hn0 H locs lsA hP hS hl) (fun q => (toW (ih _ _ _ _ hok2 (hw.2 q))).2 hn0 H locs lsA hP hS hl)⟩
              by_cases q : y ≤ x
              · exact (toW (hw.1 q)).1
              · exact (toW (ih _ _ _ _ hok2 (hw.2 q))).1
            | gt =>
              have hw : (y < x → G a ls st2 h) ∧ (¬ y < x → pb_bw CR G FIN mL rz xs r (pc + 3) ls st2 h) := hw
              refine ofW ⟨?_, fun hn0 H locs lsA hP hS hl => lv_icmp_gt hx hb hd (of_decide_eq_true hk) (fun q => (toW (hw.1 q)).2 hn0 H locs lsA hP hS hl) (fun q => (toW (ih _ _ _ _ hok2 (hw.2 q))).2 hn0 H locs lsA hP hS hl)⟩
              by_cases q : y < x
              · exact (toW (hw.1 q)).1
              · exact (toW (ih _ _ _ _ hok2 (hw.2 q))).1
            | le =>
              have hw : (x ≤ y → G a ls st2 h) ∧ (¬ x ≤ y → pb_bw CR G FIN mL rz xs r (pc + 3) ls st2 h) := hw
              refine ofW ⟨?_, fun hn0 H locs lsA hP hS hl => lv_icmp_le hx hb hd (of_decide_eq_true hk) (fun q => (toW (hw.1 q)).2 hn0 H locs lsA hP hS hl) (fun q => (toW (ih _ _ _ _ hok2 (hw.2 q))).2 hn0 H locs lsA hP hS hl)⟩
              by_cases q : x ≤ y
              · exact (toW (hw.1 q)).1
              · exact (toW (ih _ _ _ _ hok2 (hw.2 q))).1
          | _ => exact False.elim hw
      | _ => exact False.elim hw
  case ifnull off =>
    have hn : n = 3 := hn
    subst hn
    cases st with
    | nil => exact False.elim hw
    | cons v_ st2 =>
      cases v_ with
      | ref x =>
        have hw : pb_bw CR G FIN mL rz xs r (pc + 3) ls st2 h := hw
        obtain ⟨g1, g2⟩ := toW (ih _ _ _ _ hok2 hw)
        exact ofW ⟨g1, fun hn0 H locs lsA hP hS hl => lv_ifnull hx hb hd (g2 hn0 H locs lsA hP hS hl)⟩
      | null =>
        have hw : G a ls st2 h := hw
        obtain ⟨g1, g2⟩ := toW hw
        exact ofW ⟨g1, fun hn0 H locs lsA hP hS hl => lv_ifnullN hx hb hd (of_decide_eq_true hk) (g2 hn0 H locs lsA hP hS hl)⟩
      | _ => exact False.elim hw
  case ifnonnull off =>
    have hn : n = 3 := hn
    subst hn
    cases st with
    | nil => exact False.elim hw
    | cons v_ st2 =>
      cases v_ with
      | null =>
        have hw : pb_bw CR G FIN mL rz xs r (pc + 3) ls st2 h := hw
        obtain ⟨g1, g2⟩ := toW (ih _ _ _ _ hok2 hw)
        exact ofW ⟨g1, fun hn0 H locs lsA hP hS hl => lv_ifnonnullN hx hb hd (g2 hn0 H locs lsA hP hS hl)⟩
      | ref x =>
        have hw : G a ls st2 h := hw
        obtain ⟨g1, g2⟩ := toW hw
        exact ofW ⟨g1, fun hn0 H locs lsA hP hS hl => lv_ifnonnull hx hb hd (of_decide_eq_true hk) (g2 hn0 H locs lsA hP hS hl)⟩
      | _ => exact False.elim hw
  case tableswitch dd lo hi offs =>
    cases st with
    | nil => exact False.elim hw
    | cons v_ st2 =>
      cases v_ with
      | int x =>
        have hw : G (pb_swt pc dd lo hi offs x) ls st2 h := hw
        obtain ⟨g1, g2⟩ := toW hw
        obtain ⟨k1, k2⟩ := (Bool.and_eq_true _ _).mp hk
        obtain ⟨k3, k4, k5⟩ := of_decide_eq_true k1
        refine ofW ⟨g1, fun hn0 H locs lsA hP hS hl => ?_⟩
        have g2 := g2 hn0 H locs lsA hP hS hl
        unfold pb_swt at g2
        by_cases q : x.toInt < lo ∨ hi < x.toInt
        · rw [if_pos q] at g2
          exact lv_tableOut hx hb hd q (by omega) g2
        · rw [if_neg q] at g2
          have hlt : (x.toInt - lo).toNat < offs.size := by rw [k5]; omega
          have e1 : offs.getD (x.toInt - lo).toNat 0 = offs[(x.toInt - lo).toNat] := by simp [Array.getD, hlt]
          have k6 := of_decide_eq_true ((Array.all_eq_true.mp k2) _ hlt)
          rw [e1] at g2
          exact lv_tableIn hx hb hd (fun z => q (Or.inl z)) (fun z => q (Or.inr z)) (Array.getElem?_eq_getElem hlt) (by omega) g2
      | _ => exact False.elim hw
  case ireturn =>
    have hn : n = 1 := hn
    subst hn
    cases st with
    | nil => exact False.elim hw
    | cons v_ s_ =>
      cases v_ with
      | int x =>
        cases s_ with
        | nil =>
          have hw : (rz = 1 → x = 0 ∨ x = 1) ∧ FIN (some (.int x)) h := hw
          exact ofW ⟨hFm _ _ hw.2, fun hn0 H locs lsA hP hS hl => hF .ireturn _ pc lsA [.int x] h H locs (Or.inl ⟨rfl, x, rfl, rfl, hw.1⟩) hd hw.2 hn0 hP hS⟩
        | cons _ _ => exact False.elim hw
      | _ => exact False.elim hw
  case lreturn =>
    have hn : n = 1 := hn
    subst hn
    cases st with
    | nil => exact False.elim hw
    | cons v_ s_ =>
      cases v_ with
      | long x =>
        cases s_ with
        | nil =>
          have hw : FIN (some (.long x)) h := hw
          exact ofW ⟨hFm _ _ hw, fun hn0 H locs lsA hP hS hl => hF .lreturn _ pc lsA [.long x] h H locs (Or.inr (Or.inl ⟨rfl, x, rfl, rfl⟩)) hd hw hn0 hP hS⟩
        | cons _ _ => exact False.elim hw
      | _ => exact False.elim hw
  case areturn =>
    have hn : n = 1 := hn
    subst hn
    cases st with
    | nil => exact False.elim hw
    | cons v_ s_ =>
      cases v_ with
      | ref x =>
        cases s_ with
        | nil =>
          have hw : FIN (some (.ref x)) h := hw
          exact ofW ⟨hFm _ _ hw, fun hn0 H locs lsA hP hS hl => hF .areturn _ pc lsA [.ref x] h H locs (Or.inr (Or.inr (Or.inl ⟨rfl, Or.inl ⟨x, rfl, rfl⟩⟩))) hd hw hn0 hP hS⟩
        | cons _ _ => exact False.elim hw
      | null =>
        cases s_ with
        | nil =>
          have hw : FIN (some .null) h := hw
          exact ofW ⟨hFm _ _ hw, fun hn0 H locs lsA hP hS hl => hF .areturn _ pc lsA [.null] h H locs (Or.inr (Or.inr (Or.inl ⟨rfl, Or.inr ⟨rfl, rfl⟩⟩))) hd hw hn0 hP hS⟩
        | cons _ _ => exact False.elim hw
      | _ => exact False.elim hw
  case return_ =>
    have hn : n = 1 := hn
    subst hn
    cases st with
    | nil =>
      have hw : FIN none h := hw
      exact ofW ⟨hFm _ _ hw, fun hn0 H locs lsA hP hS hl => hF .return_ _ pc lsA [] h H locs (Or.inr (Or.inr (Or.inr ⟨rfl, rfl, rfl⟩))) hd hw hn0 hP hS⟩
    | cons _ _ => exact False.elim hw
  case idiv =>
    have hn : n = 1 := hn
    subst hn
    cases st with
    | nil => exact False.elim hw
    | cons v_ s_ =>
      cases v_ with
      | int y =>
        cases s_ with
        | nil => exact False.elim hw
        | cons v_ st2 =>
          cases v_ with
          | int x =>
            have hw : ¬ y = 0 ∧ pb_bw CR G FIN mL rz xs r (pc + 1) ls (.int (x / y) :: st2) h := hw
            obtain ⟨g1, g2⟩ := toW (ih _ _ _ _ hok2 hw.2)
            exact ofW ⟨g1, fun hn0 H locs lsA hP hS hl => lv_idiv hx hb hd hw.1 (g2 hn0 H locs lsA hP hS hl)⟩
          | _ => exact False.elim hw
      | _ => exact False.elim hw
  case irem =>
    have hn : n = 1 := hn
    subst hn
    cases st with
    | nil => exact False.elim hw
    | cons v_ s_ =>
      cases v_ with
      | int y =>
        cases s_ with
        | nil => exact False.elim hw
        | cons v_ st2 =>
          cases v_ with
          | int x =>
            have hw : ¬ y = 0 ∧ pb_bw CR G FIN mL rz xs r (pc + 1) ls (.int (x - x / y * y) :: st2) h := hw
            obtain ⟨g1, g2⟩ := toW (ih _ _ _ _ hok2 hw.2)
            exact ofW ⟨g1, fun hn0 H locs lsA hP hS hl => lv_irem hx hb hd hw.1 (g2 hn0 H locs lsA hP hS hl)⟩
          | _ => exact False.elim hw
      | _ => exact False.elim hw
  case ldiv =>
    have hn : n = 1 := hn
    subst hn
    cases st with
    | nil => exact False.elim hw
    | cons v_ s_ =>
      cases v_ with
      | long y =>
        cases s_ with
        | nil => exact False.elim hw
        | cons v_ st2 =>
          cases v_ with
          | long x =>
            have hw : ¬ y = 0 ∧ pb_bw CR G FIN mL rz xs r (pc + 1) ls (.long (x / y) :: st2) h := hw
            obtain ⟨g1, g2⟩ := toW (ih _ _ _ _ hok2 hw.2)
            exact ofW ⟨g1, fun hn0 H locs lsA hP hS hl => lv_ldiv hx hb hd hw.1 (g2 hn0 H locs lsA hP hS hl)⟩
          | _ => exact False.elim hw
      | _ => exact False.elim hw
  case lrem =>
    have hn : n = 1 := hn
    subst hn
    cases st with
    | nil => exact False.elim hw
    | cons v_ s_ =>
      cases v_ with
      | long y =>
        cases s_ with
        | nil => exact False.elim hw
        | cons v_ st2 =>
          cases v_ with
          | long x =>
            have hw : ¬ y = 0 ∧ pb_bw CR G FIN mL rz xs r (pc + 1) ls (.long (x - x / y * y) :: st2) h := hw
            obtain ⟨g1, g2⟩ := toW (ih _ _ _ _ hok2 hw.2)
            exact ofW ⟨g1, fun hn0 H locs lsA hP hS hl => lv_lrem hx hb hd hw.1 (g2 hn0 H locs lsA hP hS hl)⟩
          | _ => exact False.elim hw
      | _ => exact False.elim hw
  case getfield idx =>
    have hn : n = 3 := hn
    subst hn
    cases st with
    | nil => exact False.elim hw
    | cons v_ st2 =>
      cases v_ with
      | ref o =>
        have hi : pb_is h o a := hw.1
        obtain ⟨k1, k2⟩ := (Bool.and_eq_true _ _).mp hk
        obtain ⟨ha, hbN⟩ := of_decide_eq_true k1
        have hcs : pb_ty a b = 1 ∨ pb_ty a b = 2 ∨ (pb_ty a b ≠ 1 ∧ pb_ty a b ≠ 2) := by omega
        have hw2 := hw.2
        rcases hcs with ht | ht | ht
        · rw [ht] at hw2
          have hw : pb_bw CR G FIN mL rz xs r (pc + 3) ls (.long (pb_J h o b) :: st2) h := hw2
          obtain ⟨g1, g2⟩ := toW (ih _ _ _ _ hok2 hw)
          refine ofW ⟨g1, fun hn0 H locs lsA hP hS hl => ?_⟩
          refine va_get (D := (dC, dI)) (ci := a) (v := .long (pb_J h o b)) (C := pb_cn a) (T := pb_T a) (N := pb_nF a) hx hb hts (pb_uin ha) hown hK hP o ((pb_ws_at hi.1).trans (by rw [pb_ce_o hi.2 ha])) (pb_cl_at ha) b hbN (hts _ (pb_tbl_in (pb_fok_mem how k2) rfl)) (fun _ h9 => h9) ((pb_fs_at hbN).trans ?_) hd (g2 hn0 H locs lsA hP hS hl)
          unfold pb_fv
          rw [ht]
          rfl
        · rw [ht] at hw2
          obtain ⟨q, hq, hw2⟩ := hw2
          have hw : pb_bw CR G FIN mL rz xs r (pc + 3) ls (.ref q :: st2) h := hw2
          obtain ⟨g1, g2⟩ := toW (ih _ _ _ _ hok2 hw)
          refine ofW ⟨g1, fun hn0 H locs lsA hP hS hl => ?_⟩
          refine va_get (D := (dC, dI)) (ci := a) (v := .ref (base + q)) (C := pb_cn a) (T := pb_T a) (N := pb_nF a) hx hb hts (pb_uin ha) hown hK hP o ((pb_ws_at hi.1).trans (by rw [pb_ce_o hi.2 ha])) (pb_cl_at ha) b hbN (hts _ (pb_tbl_in (pb_fok_mem how k2) rfl)) (fun _ h9 => h9) ((pb_fs_at hbN).trans ?_) hd (g2 hn0 H locs lsA hP hS hl)
          unfold pb_fv
          rw [ht]
          show some (va_rf ((pb_R h o b).map (base + ·))) = _
          rw [hq]
          rfl
        · have hw2 : pb_bw CR G FIN mL rz xs r (pc + 3) ls (.int (pb_I h o b) :: st2) h := by
            split at hw2
            · exact absurd (by assumption) ht.1
            · exact absurd (by assumption) ht.2
            · exact hw2
          have hw : pb_bw CR G FIN mL rz xs r (pc + 3) ls (.int (pb_I h o b) :: st2) h := hw2
          obtain ⟨g1, g2⟩ := toW (ih _ _ _ _ hok2 hw)
          refine ofW ⟨g1, fun hn0 H locs lsA hP hS hl => ?_⟩
          refine va_get (D := (dC, dI)) (ci := a) (v := .int (pb_I h o b)) (C := pb_cn a) (T := pb_T a) (N := pb_nF a) hx hb hts (pb_uin ha) hown hK hP o ((pb_ws_at hi.1).trans (by rw [pb_ce_o hi.2 ha])) (pb_cl_at ha) b hbN (hts _ (pb_tbl_in (pb_fok_mem how k2) rfl)) (fun _ h9 => h9) ((pb_fs_at hbN).trans ?_) hd (g2 hn0 H locs lsA hP hS hl)
          unfold pb_fv
          split
          · exact absurd (by assumption) ht.1
          · exact absurd (by assumption) ht.2
          · rfl
      | _ => exact False.elim hw
  case putfield idx =>
    have hn : n = 3 := hn
    subst hn
    cases st with
    | nil => exact False.elim hw
    | cons v_ s_ =>
      cases v_ with
      | int v =>
        cases s_ with
        | nil => exact False.elim hw
        | cons v2_ st2 =>
          cases v2_ with
          | ref o =>
            have hi : pb_is h o a := hw.1
            obtain ⟨k1, k5⟩ := (Bool.and_eq_true _ _).mp hk
            obtain ⟨ha, hbN⟩ := of_decide_eq_true k1
            obtain ⟨k6, k4⟩ := (Bool.and_eq_true _ _).mp k5
            obtain ⟨k2, k3⟩ := (Bool.and_eq_true _ _).mp k6
            have htk := pb_uk ha hbN
            have hw2 := hw.2
            have hft0 : (pb_ty a b = 0 ∨ pb_ty a b = 3 ∧ (v = 0 ∨ v = 1)) ∧ pb_bw CR G FIN mL rz xs r (pc + 3) ls st2 (pb_pI h o b v) := by
              split at hw2
              · exact ⟨Or.inl (by assumption), hw2⟩
              · exact ⟨Or.inr ⟨by assumption, hw2.1⟩, hw2.2⟩
              · exact False.elim hw2
            obtain ⟨ht, hw3⟩ := hft0
            obtain ⟨g1, g2⟩ := toW (ih _ _ _ _ hok2 hw3)
            refine ofW ⟨g1, fun hn0 H locs lsA hP hS hl => ?_⟩
            have e1 : (pb_ws base cA h)[o]? = some (base + o, .inr (a, (List.range (pb_nF a)).map (pb_fv base h o a))) := (pb_ws_at hi.1).trans (by rw [pb_ce_o hi.2 ha])
            have hD := pb_ws_D base cA h
            have hlen : b < ((List.range (pb_nF a)).map (pb_fv base h o a)).length := by simpa using hbN
            have hlink := hts _ (pb_tbl_in (pb_fok_mem how k2) rfl)
            have hft : narrow (pb_TY a b) (.int v) = .int v ∧ fits (pb_TY a b) (.int v) = true := pb_fit_i htk ht
            cases hfin : (pb_T a b).2.2.2 with
            | false =>
              refine va_put (D := (dC, dI)) (ci := a) (v := .int v) (ty := pb_TY a b) (C := pb_cn a) (T := pb_T a) (N := pb_nF a) hx hb hts (pb_uin ha) (pb_TY a) (pb_uty ha) (pb_unm ha) hown hK hP hD hS o e1 (pb_cl_at ha) b hbN hlink (fun _ h9 => h9) hfin (pb_uty ha b hbN) hft.1 hft.2 hlen hd (fun H1 locs1 hP1 _ hS1 => ?_)
              rw [pb_ws_pI hi.1 hi.2 ha hbN (ht.elim Or.inl (fun z => Or.inr z.1))] at hP1
              exact g2 hn0 H1 locs1 lsA hP1 hS1 hl
            | true =>
              have hini2 : ini = true := by
                rw [hfin] at k3
                simpa using k3
              have hdecl : (pb_T a b).1 = pb_own ow := by
                rw [hfin] at k4
                simpa using k4
              refine va_putF (D := (dC, dI)) (ci := a) (v := .int v) (ty := pb_TY a b) (C := pb_cn a) (T := pb_T a) (N := pb_nF a) hx hb hts (pb_uin ha) (pb_TY a) (pb_uty ha) (pb_unm ha) hown hK hP hD hS o e1 (pb_cl_at ha) b hbN hlink (fun _ h9 => h9) hfin (hini hini2) hdecl (pb_uty ha b hbN) hft.1 hft.2 hlen hd (fun H1 locs1 hP1 _ hS1 => ?_)
              rw [pb_ws_pI hi.1 hi.2 ha hbN (ht.elim Or.inl (fun z => Or.inr z.1))] at hP1
              exact g2 hn0 H1 locs1 lsA hP1 hS1 hl
          | _ => exact False.elim hw
      | long v =>
        cases s_ with
        | nil => exact False.elim hw
        | cons v2_ st2 =>
          cases v2_ with
          | ref o =>
            have hi : pb_is h o a := hw.1
            obtain ⟨k1, k5⟩ := (Bool.and_eq_true _ _).mp hk
            obtain ⟨ha, hbN⟩ := of_decide_eq_true k1
            obtain ⟨k6, k4⟩ := (Bool.and_eq_true _ _).mp k5
            obtain ⟨k2, k3⟩ := (Bool.and_eq_true _ _).mp k6
            have htk := pb_uk ha hbN
            have hw2 := hw.2
            have hft0 : pb_ty a b = 1 ∧ pb_bw CR G FIN mL rz xs r (pc + 3) ls st2 (pb_pJ h o b v) := by
              split at hw2
              · exact ⟨by assumption, hw2⟩
              · exact False.elim hw2
            obtain ⟨ht, hw3⟩ := hft0
            obtain ⟨g1, g2⟩ := toW (ih _ _ _ _ hok2 hw3)
            refine ofW ⟨g1, fun hn0 H locs lsA hP hS hl => ?_⟩
            have e1 : (pb_ws base cA h)[o]? = some (base + o, .inr (a, (List.range (pb_nF a)).map (pb_fv base h o a))) := (pb_ws_at hi.1).trans (by rw [pb_ce_o hi.2 ha])
            have hD := pb_ws_D base cA h
            have hlen : b < ((List.range (pb_nF a)).map (pb_fv base h o a)).length := by simpa using hbN
            have hlink := hts _ (pb_tbl_in (pb_fok_mem how k2) rfl)
            have hft : narrow (pb_TY a b) (.long v) = .long v ∧ fits (pb_TY a b) (.long v) = true := pb_fit_l (htk.trans ht)
            cases hfin : (pb_T a b).2.2.2 with
            | false =>
              refine va_put (D := (dC, dI)) (ci := a) (v := .long v) (ty := pb_TY a b) (C := pb_cn a) (T := pb_T a) (N := pb_nF a) hx hb hts (pb_uin ha) (pb_TY a) (pb_uty ha) (pb_unm ha) hown hK hP hD hS o e1 (pb_cl_at ha) b hbN hlink (fun _ h9 => h9) hfin (pb_uty ha b hbN) hft.1 hft.2 hlen hd (fun H1 locs1 hP1 _ hS1 => ?_)
              rw [pb_ws_pJ hi.1 hi.2 ha hbN ht] at hP1
              exact g2 hn0 H1 locs1 lsA hP1 hS1 hl
            | true =>
              have hini2 : ini = true := by
                rw [hfin] at k3
                simpa using k3
              have hdecl : (pb_T a b).1 = pb_own ow := by
                rw [hfin] at k4
                simpa using k4
              refine va_putF (D := (dC, dI)) (ci := a) (v := .long v) (ty := pb_TY a b) (C := pb_cn a) (T := pb_T a) (N := pb_nF a) hx hb hts (pb_uin ha) (pb_TY a) (pb_uty ha) (pb_unm ha) hown hK hP hD hS o e1 (pb_cl_at ha) b hbN hlink (fun _ h9 => h9) hfin (hini hini2) hdecl (pb_uty ha b hbN) hft.1 hft.2 hlen hd (fun H1 locs1 hP1 _ hS1 => ?_)
              rw [pb_ws_pJ hi.1 hi.2 ha hbN ht] at hP1
              exact g2 hn0 H1 locs1 lsA hP1 hS1 hl
          | _ => exact False.elim hw
      | ref v =>
        cases s_ with
        | nil => exact False.elim hw
        | cons v2_ st2 =>
          cases v2_ with
          | ref o =>
            have hi : pb_is h o a := hw.1
            obtain ⟨k1, k5⟩ := (Bool.and_eq_true _ _).mp hk
            obtain ⟨ha, hbN⟩ := of_decide_eq_true k1
            obtain ⟨k6, k4⟩ := (Bool.and_eq_true _ _).mp k5
            obtain ⟨k2, k3⟩ := (Bool.and_eq_true _ _).mp k6
            have htk := pb_uk ha hbN
            have hw2 := hw.2
            have hft0 : pb_ty a b = 2 ∧ pb_bw CR G FIN mL rz xs r (pc + 3) ls st2 (pb_pR h o b (some v)) := by
              split at hw2
              · exact ⟨by assumption, hw2⟩
              · exact False.elim hw2
            obtain ⟨ht, hw3⟩ := hft0
            obtain ⟨g1, g2⟩ := toW (ih _ _ _ _ hok2 hw3)
            refine ofW ⟨g1, fun hn0 H locs lsA hP hS hl => ?_⟩
            have e1 : (pb_ws base cA h)[o]? = some (base + o, .inr (a, (List.range (pb_nF a)).map (pb_fv base h o a))) := (pb_ws_at hi.1).trans (by rw [pb_ce_o hi.2 ha])
            have hD := pb_ws_D base cA h
            have hlen : b < ((List.range (pb_nF a)).map (pb_fv base h o a)).length := by simpa using hbN
            have hlink := hts _ (pb_tbl_in (pb_fok_mem how k2) rfl)
            have hft : narrow (pb_TY a b) (.ref (base + v)) = .ref (base + v) ∧ fits (pb_TY a b) (.ref (base + v)) = true := pb_fit_r (htk.trans ht)
            cases hfin : (pb_T a b).2.2.2 with
            | false =>
              refine va_put (D := (dC, dI)) (ci := a) (v := .ref (base + v)) (ty := pb_TY a b) (C := pb_cn a) (T := pb_T a) (N := pb_nF a) hx hb hts (pb_uin ha) (pb_TY a) (pb_uty ha) (pb_unm ha) hown hK hP hD hS o e1 (pb_cl_at ha) b hbN hlink (fun _ h9 => h9) hfin (pb_uty ha b hbN) hft.1 hft.2 hlen hd (fun H1 locs1 hP1 _ hS1 => ?_)
              rw [pb_ws_pR hi.1 hi.2 ha hbN ht] at hP1
              exact g2 hn0 H1 locs1 lsA hP1 hS1 hl
            | true =>
              have hini2 : ini = true := by
                rw [hfin] at k3
                simpa using k3
              have hdecl : (pb_T a b).1 = pb_own ow := by
                rw [hfin] at k4
                simpa using k4
              refine va_putF (D := (dC, dI)) (ci := a) (v := .ref (base + v)) (ty := pb_TY a b) (C := pb_cn a) (T := pb_T a) (N := pb_nF a) hx hb hts (pb_uin ha) (pb_TY a) (pb_uty ha) (pb_unm ha) hown hK hP hD hS o e1 (pb_cl_at ha) b hbN hlink (fun _ h9 => h9) hfin (hini hini2) hdecl (pb_uty ha b hbN) hft.1 hft.2 hlen hd (fun H1 locs1 hP1 _ hS1 => ?_)
              rw [pb_ws_pR hi.1 hi.2 ha hbN ht] at hP1
              exact g2 hn0 H1 locs1 lsA hP1 hS1 hl
          | _ => exact False.elim hw
      | _ => exact False.elim hw
  case iaload =>
    have hn : n = 1 := hn
    subst hn
    cases st with
    | nil => exact False.elim hw
    | cons v_ s_ =>
      cases v_ with
      | int i =>
        cases s_ with
        | nil => exact False.elim hw
        | cons v2_ st2 =>
          cases v2_ with
          | ref o =>
            have hw2 : pb_ar h o 12 i ∧ pb_bw CR G FIN mL rz xs r (pc + 1) ls (.int (pb_I h o i.toNatClampNeg) :: st2) h := hw
            obtain ⟨⟨hi, hin⟩, hw3⟩ := hw2
            obtain ⟨g1, g2⟩ := toW (ih _ _ _ _ hok2 hw3)
            refine ofW ⟨g1, fun hn0 H locs lsA hP hS hl => ?_⟩
            exact va_iald hx hb hK hP o 0 ((pb_ws_at hi.1).trans (by rw [pb_ce_i hi.2 (by omega) (by omega)])) rfl (pb_in_vp hin) hd (g2 hn0 H locs lsA hP hS hl)
          | retAddr k =>
            have hw2 : pb_in i (pb_E xs k).length ∧ pb_bw CR G FIN mL rz xs r (pc + 1) ls (.int ((pb_E xs k).getD i.toNatClampNeg 0) :: st2) h := hw
            obtain ⟨hin, hw3⟩ := hw2
            obtain ⟨g1, g2⟩ := toW (ih _ _ _ _ hok2 hw3)
            have hk15 : 1 ≤ k ∧ k ≤ 5 := pb_E_k hin
            exact ofW ⟨g1, fun hn0 H locs lsA hP hS hl => va_ti hx hb (hT k hk15.1 hk15.2) hS (pb_in_vp hin) rfl hd (g2 hn0 H locs lsA hP hS hl)⟩
          | _ => exact False.elim hw
      | _ => exact False.elim hw
  case iastore =>
    have hn : n = 1 := hn
    subst hn
    cases st with
    | nil => exact False.elim hw
    | cons v_ s_ =>
      cases v_ with
      | int v =>
        cases s_ with
        | nil => exact False.elim hw
        | cons v_ s_ =>
          cases v_ with
          | int i =>
            cases s_ with
            | nil => exact False.elim hw
            | cons v_ st2 =>
              cases v_ with
              | ref o =>
                have hw2 : pb_ar h o 12 i ∧ pb_bw CR G FIN mL rz xs r (pc + 1) ls st2 (pb_pI h o i.toNatClampNeg v) := hw
                obtain ⟨⟨hi, hin⟩, hw3⟩ := hw2
                obtain ⟨g1, g2⟩ := toW (ih _ _ _ _ hok2 hw3)
                refine ofW ⟨g1, fun hn0 H locs lsA hP hS hl => ?_⟩
                refine va_iast hx hb hK hP (pb_ws_D base cA h) hS o 0 ((pb_ws_at hi.1).trans (by rw [pb_ce_i hi.2 (by omega) (by omega)])) rfl (pb_in_vp hin) hd (fun H1 locs1 hP1 _ hS1 => ?_)
                rw [pb_ws_pW hi.1 hi.2 (by omega) (by omega)] at hP1
                exact g2 hn0 H1 locs1 lsA hP1 hS1 hl
              | _ => exact False.elim hw
          | _ => exact False.elim hw
      | _ => exact False.elim hw
  case baload =>
    have hn : n = 1 := hn
    subst hn
    cases st with
    | nil => exact False.elim hw
    | cons v_ s_ =>
      cases v_ with
      | int i =>
        cases s_ with
        | nil => exact False.elim hw
        | cons v_ st2 =>
          cases v_ with
          | ref o =>
            have hcs : (a = 13 ∧ pb_ar h o 13 i ∧ pb_bw CR G FIN mL rz xs r (pc + 1) ls (.int (pb_I h o i.toNatClampNeg) :: st2) h) ∨ (a = 14 ∧ pb_ar h o 14 i ∧ pb_bw CR G FIN mL rz xs r (pc + 1) ls (.int (pb_I h o i.toNatClampNeg) :: st2) h) := pb_ba hw
            rcases hcs with ⟨ea, hw2⟩ | ⟨ea, hw2⟩
            · obtain ⟨⟨hi, hin⟩, hw3⟩ := hw2
              obtain ⟨g1, g2⟩ := toW (ih _ _ _ _ hok2 hw3)
              refine ofW ⟨g1, fun hn0 H locs lsA hP hS hl => ?_⟩
              exact va_bald hx hb hK hP o 1 ((pb_ws_at hi.1).trans (by rw [pb_ce_i hi.2 (by omega) (by omega)])) rfl (pb_in_vp hin) hd (g2 hn0 H locs lsA hP hS hl)
            · obtain ⟨⟨hi, hin⟩, hw3⟩ := hw2
              obtain ⟨g1, g2⟩ := toW (ih _ _ _ _ hok2 hw3)
              refine ofW ⟨g1, fun hn0 H locs lsA hP hS hl => ?_⟩
              exact va_zald hx hb hK hP o 2 ((pb_ws_at hi.1).trans (by rw [pb_ce_i hi.2 (by omega) (by omega)])) rfl (pb_in_vp hin) hd (g2 hn0 H locs lsA hP hS hl)
          | _ => exact False.elim hw
      | _ => exact False.elim hw
  case bastore =>
    have hn : n = 1 := hn
    subst hn
    cases st with
    | nil => exact False.elim hw
    | cons v_ s_ =>
      cases v_ with
      | int v =>
        cases s_ with
        | nil => exact False.elim hw
        | cons v_ s_ =>
          cases v_ with
          | int i =>
            cases s_ with
            | nil => exact False.elim hw
            | cons v_ st2 =>
              cases v_ with
              | ref o =>
                have hcs : (a = 13 ∧ pb_ar h o 13 i ∧ pb_bw CR G FIN mL rz xs r (pc + 1) ls st2 (pb_pI h o i.toNatClampNeg v.toInt8.toInt32)) ∨ (a = 14 ∧ pb_ar h o 14 i ∧ (v = 0 ∨ v = 1) ∧ pb_bw CR G FIN mL rz xs r (pc + 1) ls st2 (pb_pI h o i.toNatClampNeg v)) := pb_ba hw
                rcases hcs with ⟨ea, hw2⟩ | ⟨ea, hw2⟩
                · obtain ⟨⟨hi, hin⟩, hw3⟩ := hw2
                  obtain ⟨g1, g2⟩ := toW (ih _ _ _ _ hok2 hw3)
                  refine ofW ⟨g1, fun hn0 H locs lsA hP hS hl => ?_⟩
                  refine va_bast hx hb hK hP (pb_ws_D base cA h) hS o 1 ((pb_ws_at hi.1).trans (by rw [pb_ce_i hi.2 (by omega) (by omega)])) rfl (pb_in_vp hin) hd (fun H1 locs1 hP1 _ hS1 => ?_)
                  rw [pb_ws_pW hi.1 hi.2 (by omega) (by omega)] at hP1
                  exact g2 hn0 H1 locs1 lsA hP1 hS1 hl
                · obtain ⟨⟨hi, hin⟩, hz, hw3⟩ := hw2
                  obtain ⟨g1, g2⟩ := toW (ih _ _ _ _ hok2 hw3)
                  refine ofW ⟨g1, fun hn0 H locs lsA hP hS hl => ?_⟩
                  refine va_zast hx hb hK hP (pb_ws_D base cA h) hS o 2 ((pb_ws_at hi.1).trans (by rw [pb_ce_i hi.2 (by omega) (by omega)])) rfl (pb_in_vp hin) hd (fun H1 locs1 hP1 _ hS1 => ?_)
                  rw [pb_nar_z hz, pb_ws_pW hi.1 hi.2 (by omega) (by omega)] at hP1
                  exact g2 hn0 H1 locs1 lsA hP1 hS1 hl
              | _ => exact False.elim hw
          | _ => exact False.elim hw
      | _ => exact False.elim hw
  all_goals sorry

set_option maxHeartbeats 4000000 in
/-- along a method the number of objects doesn't fall -/
theorem pb_bw_mono {CR : Nat → pb_HP → List Value → Option Value → pb_HP → Prop} {FIN : Option Value → pb_HP → Prop} {G : Nat → pb_LS → List Value → pb_HP → Prop} {mL rz mx : Nat} {xs : List Int32} (hG : ∀ pc ls st h, G pc ls st h → h.1 ≤ mx) (hC : ∀ a h as v h1, CR a h as v h1 → h.1 ≤ h1.1) (hF : ∀ v h, FIN v h → h.1 ≤ mx) :
    ∀ (B : List pb_El) (pc : Nat) (ls : pb_LS) (st : List Value) (h : pb_HP), pb_bw CR G FIN mL rz xs B pc ls st h → h.1 ≤ mx := by
  intro B
  induction B with
  | nil => intro pc ls st h hw; exact hG _ _ _ _ hw
  | cons el r ih =>
  intro pc ls st h hw
  obtain ⟨i, n, a, b⟩ := el
  have hs1 : ∀ ls2 st2, pb_s1 i a b mL ls st = some (ls2, st2) → pb_bw CR G FIN mL rz xs r (pc + n) ls2 st2 h → h.1 ≤ mx := fun _ _ _ hw => ih _ _ _ _ hw
  have ih2 : ∀ {pc : Nat} {ls : pb_LS} {st : List Value} {h2 : pb_HP}, pb_bw CR G FIN mL rz xs r pc ls st h2 → h2.1 = h.1 → h.1 ≤ mx := fun hw e => e ▸ ih _ _ _ _ hw
  cases i
  case goto off =>
    exact hG _ _ _ _ hw
  case ifCond cn off =>
    cases st with
    | nil => exact False.elim hw
    | cons v_ st2 =>
      cases v_ with
      | int x =>
        have hw : (pb_c1 cn x → G a ls st2 h) ∧ (¬ pb_c1 cn x → pb_bw CR G FIN mL rz xs r (pc + n) ls st2 h) := hw
        by_cases q : pb_c1 cn x
        · exact hG _ _ _ _ (hw.1 q)
        · exact ih2 (hw.2 q) rfl
      | _ => exact False.elim hw
  case if_icmp cn off =>
    cases st with
    | nil => exact False.elim hw
    | cons v_ s_ =>
      cases v_ with
      | int y =>
        cases s_ with
        | nil => exact False.elim hw
        | cons v_ st2 =>
          cases v_ with
          | int x =>
            have hw : (pb_c2 cn x y → G a ls st2 h) ∧ (¬ pb_c2 cn x y → pb_bw CR G FIN mL rz xs r (pc + n) ls st2 h) := hw
            by_cases q : pb_c2 cn x y
            · exact hG _ _ _ _ (hw.1 q)
            · exact ih2 (hw.2 q) rfl
          | _ => exact False.elim hw
      | _ => exact False.elim hw
  case ifnull off =>
    cases st with
    | nil => exact False.elim hw
    | cons v_ st2 =>
      cases v_ with
      | ref x => exact ih2 hw rfl
      | null => exact hG _ _ _ _ hw
      | _ => exact False.elim hw
  case ifnonnull off =>
    cases st with
    | nil => exact False.elim hw
    | cons v_ st2 =>
      cases v_ with
      | ref x => exact hG _ _ _ _ hw
      | null => exact ih2 hw rfl
      | _ => exact False.elim hw
  case tableswitch dd lo hi offs =>
    cases st with
    | nil => exact False.elim hw
    | cons v_ st2 =>
      cases v_ with
      | int x =>
        exact hG _ _ _ _ hw
      | _ => exact False.elim hw
  case ireturn =>
    cases st with
    | nil => exact False.elim hw
    | cons v_ s_ =>
      cases v_ with
      | int x =>
        cases s_ with
        | nil => exact hF _ _ hw.2
        | cons _ _ => exact False.elim hw
      | _ => exact False.elim hw
  case lreturn =>
    cases st with
    | nil => exact False.elim hw
    | cons v_ s_ =>
      cases v_ with
      | long x =>
        cases s_ with
        | nil => exact hF _ _ hw
        | cons _ _ => exact False.elim hw
      | _ => exact False.elim hw
  case areturn =>
    cases st with
    | nil => exact False.elim hw
    | cons v_ s_ =>
      cases v_ with
      | ref x =>
        cases s_ with
        | nil => exact hF _ _ hw
        | cons _ _ => exact False.elim hw
      | null =>
        cases s_ with
        | nil => exact hF _ _ hw
        | cons _ _ => exact False.elim hw
      | _ => exact False.elim hw
  case return_ =>
    cases st with
    | nil => exact hF _ _ hw
    | cons _ _ => exact False.elim hw
  case idiv =>
    cases st with
    | nil => exact False.elim hw
    | cons v_ s_ =>
      cases v_ with
      | int y =>
        cases s_ with
        | nil => exact False.elim hw
        | cons v_ st2 =>
          cases v_ with
          | int x =>
            exact ih2 hw.2 rfl
          | _ => exact False.elim hw
      | _ => exact False.elim hw
  case irem =>
    cases st with
    | nil => exact False.elim hw
    | cons v_ s_ =>
      cases v_ with
      | int y =>
        cases s_ with
        | nil => exact False.elim hw
        | cons v_ st2 =>
          cases v_ with
          | int x =>
            exact ih2 hw.2 rfl
          | _ => exact False.elim hw
      | _ => exact False.elim hw
  case ldiv =>
    cases st with
    | nil => exact False.elim hw
    | cons v_ s_ =>
      cases v_ with
      | long y =>
        cases s_ with
        | nil => exact False.elim hw
        | cons v_ st2 =>
          cases v_ with
          | long x =>
            exact ih2 hw.2 rfl
          | _ => exact False.elim hw
      | _ => exact False.elim hw
  case lrem =>
    cases st with
    | nil => exact False.elim hw
    | cons v_ s_ =>
      cases v_ with
      | long y =>
        cases s_ with
        | nil => exact False.elim hw
        | cons v_ st2 =>
          cases v_ with
          | long x =>
            exact ih2 hw.2 rfl
          | _ => exact False.elim hw
      | _ => exact False.elim hw
  case getfield idx =>
    cases st with
    | nil => exact False.elim hw
    | cons v_ st2 =>
      cases v_ with
      | ref o =>
        have hw2 := hw.2
        split at hw2
        · exact ih2 hw2 rfl
        · obtain ⟨q, hq, hw3⟩ := hw2
          exact ih2 hw3 rfl
        · exact ih2 hw2 rfl
      | _ => exact False.elim hw
  case putfield idx =>
    cases st with
    | nil => exact False.elim hw
    | cons v_ s_ =>
      cases v_ with
      | int v =>
        cases s_ with
        | nil => exact False.elim hw
        | cons v2_ st2 =>
          cases v2_ with
          | ref o =>
            have hw2 := hw.2
            split at hw2
            · exact ih2 hw2 rfl
            · exact ih2 hw2.2 rfl
            · exact False.elim hw2
          | _ => exact False.elim hw
      | long v =>
        cases s_ with
        | nil => exact False.elim hw
        | cons v2_ st2 =>
          cases v2_ with
          | ref o =>
            have hw2 := hw.2
            split at hw2
            · exact ih2 hw2 rfl
            · exact False.elim hw2
          | _ => exact False.elim hw
      | ref v =>
        cases s_ with
        | nil => exact False.elim hw
        | cons v2_ st2 =>
          cases v2_ with
          | ref o =>
            have hw2 := hw.2
            split at hw2
            · exact ih2 hw2 rfl
            · exact False.elim hw2
          | _ => exact False.elim hw
      | _ => exact False.elim hw
  case iaload =>
    cases st with
    | nil => exact False.elim hw
    | cons v_ s_ =>
      cases v_ with
      | int i =>
        cases s_ with
        | nil => exact False.elim hw
        | cons v2_ st2 =>
          cases v2_ with
          | ref o => exact ih2 hw.2 rfl
          | retAddr k => exact ih2 hw.2 rfl
          | _ => exact False.elim hw
      | _ => exact False.elim hw
  case iastore =>
    cases st with
    | nil => exact False.elim hw
    | cons v_ s_ =>
      cases v_ with
      | int v =>
        cases s_ with
        | nil => exact False.elim hw
        | cons v_ s_ =>
          cases v_ with
          | int i =>
            cases s_ with
            | nil => exact False.elim hw
            | cons v_ st2 =>
              cases v_ with
              | ref o =>
                exact ih2 hw.2 rfl
              | _ => exact False.elim hw
          | _ => exact False.elim hw
      | _ => exact False.elim hw
  case baload =>
    cases st with
    | nil => exact False.elim hw
    | cons v_ s_ =>
      cases v_ with
      | int i =>
        cases s_ with
        | nil => exact False.elim hw
        | cons v_ st2 =>
          cases v_ with
          | ref o =>
            have hcs : (a = 13 ∧ pb_ar h o 13 i ∧ pb_bw CR G FIN mL rz xs r (pc + n) ls (.int (pb_I h o i.toNatClampNeg) :: st2) h) ∨ (a = 14 ∧ pb_ar h o 14 i ∧ pb_bw CR G FIN mL rz xs r (pc + n) ls (.int (pb_I h o i.toNatClampNeg) :: st2) h) := pb_ba hw
            rcases hcs with q | q
            · exact ih2 q.2.2 rfl
            · exact ih2 q.2.2 rfl
          | _ => exact False.elim hw
      | _ => exact False.elim hw
  case bastore =>
    cases st with
    | nil => exact False.elim hw
    | cons v_ s_ =>
      cases v_ with
      | int v =>
        cases s_ with
        | nil => exact False.elim hw
        | cons v_ s_ =>
          cases v_ with
          | int i =>
            cases s_ with
            | nil => exact False.elim hw
            | cons v_ st2 =>
              cases v_ with
              | ref o =>
                have hcs : (a = 13 ∧ pb_ar h o 13 i ∧ pb_bw CR G FIN mL rz xs r (pc + n) ls st2 (pb_pI h o i.toNatClampNeg v.toInt8.toInt32)) ∨ (a = 14 ∧ pb_ar h o 14 i ∧ (v = 0 ∨ v = 1) ∧ pb_bw CR G FIN mL rz xs r (pc + n) ls st2 (pb_pI h o i.toNatClampNeg v)) := pb_ba hw
                rcases hcs with q | q
                · exact ih2 q.2.2 rfl
                · exact ih2 q.2.2.2 rfl
              | _ => exact False.elim hw
          | _ => exact False.elim hw
      | _ => exact False.elim hw
  case aaload =>
    cases st with
    | nil => exact False.elim hw
    | cons v_ s_ =>
      cases v_ with
      | int i =>
        cases s_ with
        | nil => exact False.elim hw
        | cons v_ st2 =>
          cases v_ with
          | ref o =>
            obtain ⟨_, _, q, hq, hw3⟩ := hw
            exact ih2 hw3 rfl
          | _ => exact False.elim hw
      | _ => exact False.elim hw
  case aastore =>
    cases st with
    | nil => exact False.elim hw
    | cons v_ s_ =>
      cases v_ with
      | ref v =>
        cases s_ with
        | nil => exact False.elim hw
        | cons v_ s_ =>
          cases v_ with
          | int i =>
            cases s_ with
            | nil => exact False.elim hw
            | cons v_ st2 =>
              cases v_ with
              | ref o =>
                exact ih2 hw.2.2.2 rfl
              | _ => exact False.elim hw
          | _ => exact False.elim hw
      | _ => exact False.elim hw
  case arraylength =>
    cases st with
    | nil => exact False.elim hw
    | cons v_ st2 =>
      cases v_ with
      | ref o => exact ih2 hw.2.2 rfl
      | retAddr k => exact ih2 hw.2 rfl
      | _ => exact False.elim hw
  case new idx =>
    have h1 : (pb_nw h).1 ≤ mx := ih _ _ _ _ hw.2
    have h1 : h.1 + 1 ≤ mx := h1
    omega
  case newarray t =>
    cases st with
    | nil => exact False.elim hw
    | cons v_ st2 =>
      cases v_ with
      | int v =>
        have h1 : (pb_nw h).1 ≤ mx := ih _ _ _ _ hw.2.2
        have h1 : h.1 + 1 ≤ mx := h1
        omega
      | _ => exact False.elim hw
  case anewarray idx =>
    cases st with
    | nil => exact False.elim hw
    | cons v_ st2 =>
      cases v_ with
      | int v =>
        have h1 : (pb_nw h).1 ≤ mx := ih _ _ _ _ hw.2.2
        have h1 : h.1 + 1 ≤ mx := h1
        omega
      | _ => exact False.elim hw
  case invokevirtual idx =>
    by_cases h2 : a = 1002
    · subst h2
      cases st with
      | nil => exact False.elim hw
      | cons v_ s_ =>
        cases v_ with
        | int i =>
          cases s_ with
          | nil => exact False.elim hw
          | cons v_ st2 =>
            cases v_ with
            | retAddr k =>
              exact ih2 hw.2.2.2 rfl
            | _ => exact False.elim hw
        | _ => exact False.elim hw
    · have hw2 := pb_nv hw h2
      cases hst : st.drop (b - 1) with
      | nil => rw [hst] at hw2; exact False.elim hw2
      | cons v_ st2 =>
        rw [hst] at hw2
        cases v_ with
        | ref o =>
          obtain ⟨_, _, _, v, h1, hcr0, hw3⟩ := hw2
          exact Nat.le_trans (hC _ _ _ _ _ hcr0) (ih _ _ _ _ hw3)
        | _ => exact False.elim hw2
  case invokespecial idx =>
    by_cases h2 : a = 1001
    · subst h2
      cases st with
      | nil => exact False.elim hw
      | cons v_ st2 =>
        cases v_ with
        | ref x =>
          exact ih2 hw.2 rfl
        | _ => exact False.elim hw
    · have hw2 := pb_nv1 hw h2
      cases hst : st.drop (b - 1) with
      | nil => rw [hst] at hw2; exact False.elim hw2
      | cons v_ st2 =>
        rw [hst] at hw2
        cases v_ with
        | ref o =>
          obtain ⟨_, _, v, h1, hcr0, hw3⟩ := hw2
          exact Nat.le_trans (hC _ _ _ _ _ hcr0) (ih _ _ _ _ hw3)
        | _ => exact False.elim hw2
  case invokestatic idx =>
    by_cases h0 : a = 1000
    · subst h0
      cases st with
      | nil => exact False.elim hw
      | cons v_ s_ =>
        cases v_ with
        | int k =>
          cases s_ with
          | nil => exact False.elim hw
          | cons v_ s_ =>
            cases v_ with
            | int dp =>
              cases s_ with
              | nil => exact False.elim hw
              | cons v_ s_ =>
                cases v_ with
                | ref o2 =>
                  cases s_ with
                  | nil => exact False.elim hw
                  | cons v_ s_ =>
                    cases v_ with
                    | int sp =>
                      cases s_ with
                      | nil => exact False.elim hw
                      | cons v_ st2 =>
                        cases v_ with
                        | ref o1 =>
                          exact ih2 hw.2.2.2.2.2.2.2.2.2 rfl
                        | _ => exact False.elim hw
                    | _ => exact False.elim hw
                | _ => exact False.elim hw
            | _ => exact False.elim hw
        | _ => exact False.elim hw
    by_cases h1003 : a = 1003
    · subst h1003
      cases st with
      | nil => exact False.elim hw
      | cons v_ s_ =>
        cases v_ with
        | int y =>
          cases s_ with
          | nil => exact False.elim hw
          | cons v_ st2 =>
            cases v_ with
            | int x =>
              exact ih2 hw.2 rfl
            | _ => exact False.elim hw
        | _ => exact False.elim hw
    by_cases h1004 : a = 1004
    · subst h1004
      cases st with
      | nil => exact False.elim hw
      | cons v_ s_ =>
        cases v_ with
        | int y =>
          cases s_ with
          | nil => exact False.elim hw
          | cons v_ st2 =>
            cases v_ with
            | int x =>
              exact ih2 hw.2 rfl
            | _ => exact False.elim hw
        | _ => exact False.elim hw
    by_cases h1005 : a = 1005
    · subst h1005
      cases st with
      | nil => exact False.elim hw
      | cons v_ st2 =>
        cases v_ with
        | int x =>
          exact ih2 hw.2 rfl
        | _ => exact False.elim hw
    have hw2 : b ≤ st.length ∧ ((st.drop b).map Value.category).sum ≤ 8 ∧ ((st.take b).map Value.category).sum ≤ pb_mL a ∧ ∃ v h1, CR a h (st.take b).reverse v h1 ∧ pb_bw CR G FIN mL rz xs r (pc + n) ls (v.toList ++ st.drop b) h1 := pb_sv hw h0 h1003 h1004 h1005
    obtain ⟨_, _, _, v, h1, hcr0, hw3⟩ := hw2
    exact Nat.le_trans (hC _ _ _ _ _ hcr0) (ih _ _ _ _ hw3)
  all_goals
    first
    | exact False.elim hw
    | (exact pb_dsp hw hs1)
theorem pb_mono (xs : List Int32) : ∀ (d mi : Nat) (h : pb_HP) (as : List Value) (r : Option Value) (hE : pb_HP), pb_AR xs d mi h as r hE → h.1 ≤ hE.1
  | 0, _, _, _, _, _, q => False.elim q
  | d + 1, mi, h, as, r, hE, q => by
    refine q (fun _ _ _ h => h.1 ≤ hE.1) ⟨fun i pc B ls st h _ hw => ?_, fun _ _ _ _ _ _ _ k => k⟩
    exact pb_bw_mono (fun _ _ _ _ k => k) (fun a h as v h1 k => pb_mono xs d a h as v h1 k) (fun v h k => by rw [k.2]; exact Nat.le_refl _) B pc ls st h hw
theorem pb_lg_len : ∀ vs : List Value, (lg_sl vs).length = (vs.map Value.category).sum
  | [] => rfl
  | v :: vs => by
    have ih := pb_lg_len vs
    have e : lg_sl (v :: vs) = (if v.category = 2 then [.val v, .second] else [.val v]) ++ lg_sl vs := rfl
    rw [e, List.length_append, ih, List.map_cons, List.sum_cons]
    rcases lv_cat v with c | c
    · rw [if_neg (by omega), c]
      rfl
    · rw [if_pos c, c]
      rfl
/-- what the text's two instructions do in a frame of the reader (proved apart) -/
def pb_TX (l : Launch) : Prop := ∀ (p : Program) (e : Env) (R : Room) (s : State) (m : MethodId) (args : Array Value) (below : List Frame) (meth : Method) (c : Code) (Q : State → Prop) (cc : ByteArray) (mL ow base : Nat) (cst : Nat → Nat) (dC : Nat → ClassId) (dI : Nat → Nat → Nat) (cA : Nat → ClassId) (xs : List Int32) (d n0 mx : Nat), pb_FX p R s m args c cc mL ow base cst dC dI cA xs d n0 mx → 8 ≤ d →
    (∀ (pc : Nat) (lsA : Array Slot) (st : List Value) (H : Heap) (locs : List Loc) (cells slots : Nat), ow = 6 → decode cc pc = .ok (.ldc 134, 2) → va_S (pb_up base) s.heap H locs → W p l e R s m args below meth c H locs cells slots Q (F0 m (pc + 2) lsA (.ref (cst 9) :: st)) → W p l e R s m args below meth c H locs cells slots Q (F0 m pc lsA st)) ∧
    (∀ (pc : Nat) (lsA : Array Slot) (st : List Value) (H : Heap) (locs : List Loc) (cells slots : Nat) (i : Int32), ow = 6 → decode cc pc = .ok (.invokevirtual 136, 3) → lsA.size = mL → va_S (pb_up base) s.heap H locs → pb_in i pb_WD.length → cells ≤ R.cells → slots ≤ R.slots → (st.map Value.category).sum ≤ 8 → W p l e R s m args below meth c H locs cells slots Q (F0 m (pc + 3) lsA (.int (pb_WD.getD i.toNatClampNeg 0) :: st)) → W p l e R s m args below meth c H locs cells slots Q (F0 m pc lsA (.int i :: .ref (cst 9) :: st)))
/-- the judgement of the machine is closed under a method's blocks -/
theorem pb_closed {p : Program} {l : Launch} {e : Env} {R : Room} {s : State} {m : MethodId} {args : Array Value} {below : List Frame} {meth : Method} {c : Code} {Q : State → Prop} {mi base : Nat} {cst : Nat → Nat} {dC : Nat → ClassId} {dI : Nat → Nat → Nat} {cA : Nat → ClassId} {xs : List Int32} {d n0 mx mL rz : Nat} {CR : Nat → pb_HP → List Value → Option Value → pb_HP → Prop} {FIN : Option Value → pb_HP → Prop} (hX : pb_TX l) (hd8 : 8 ≤ d)
    (F : pb_FX p R s m args c (pb_cc mi) mL (pb_ow mi) base cst dC dI cA xs d n0 mx) (hini : Nat.beq (pb_mh mi).2.2.2.2.1 2 = true → meth.name = "<init>") (hmok : pb_mok mi = true) (hrok : (pb_CODE mi).all (fun q => q.2.all (fun el => pb_rk (pb_rt mi) el.1)) = true)
    (hCR : ∀ a h as v h1, CR a h as v h1 → h.1 ≤ h1.1 ∧ (a < 307 → (as.map Value.category).sum ≤ pb_mL a → pb_Ct l base cst dC dI cA xs d a h as v h1))
    (hFm : ∀ v h, FIN v h → h.1 ≤ mx)
    (hF : ∀ (i : Instr) (v : Option Value) (pc : Nat) (lsA : Array Slot) (st : List Value) (h : pb_HP) (H : Heap) (locs : List Loc), pb_ret rz i v st → pb_rk (pb_rt mi) i = true → decode (pb_cc mi) pc = .ok (i, 1) → FIN v h → n0 ≤ h.1 → va_P (dC, dI) pb_cl (pb_ws base cA h) H → va_S (pb_up base) s.heap H locs → W p l e R s m args below meth c H locs (h.1 - n0) (pb_sl h.1 - pb_sl n0) Q (F0 m pc lsA (st.map (pb_vv base cst)))) :
    pb_Cl CR (pb_CODE mi) FIN mL rz xs (pb_WG p l e R s m args below meth c Q base cst dC dI cA mL n0 mx) := by
  obtain ⟨x1, x2⟩ := hX p e R s m args below meth c Q _ mL _ base cst dC dI cA xs d n0 mx F hd8
  refine ⟨fun i pc B ls st h hK hw => ?_, fun pc ls ks ls2 st h hp k => ?_⟩
  · have hmem : (pc, B) ∈ pb_CODE mi := List.mem_of_getElem? hK
    have h1 := List.all_eq_true.mp hmok _ hmem
    have h2 := List.all_eq_true.mp hrok _ hmem
    exact pb_blk (rt := pb_rt mi) rfl F hini hCR hFm hF x1 x2 B pc ls st h ((Bool.and_eq_true _ _).mpr ⟨h1, h2⟩) hw
  · obtain ⟨k1, k2⟩ := k
    exact ⟨k1, fun hn H locs lsA hP hS hl => k2 hn H locs lsA hP hS (pb_pick hp hl)⟩
theorem pb_mw_spec2 {a : Nat} (h : a < 307) : pb_ow a < 16 ∧ pb_own (pb_ow a) = (pb_y a).cls ∧ plainName (pb_y a).cls = true ∧ (pb_rz a = if pb_rt a = some .boolean then 1 else 0) := by
  have h1 := pb_mw_all h
  unfold pb_mw at h1
  obtain ⟨a1, a2⟩ := (Bool.and_eq_true _ _).mp h1
  obtain ⟨a3, a4⟩ := (Bool.and_eq_true _ _).mp a2
  obtain ⟨b1, b2, b3, b4, b5, b6, b7, b8, b9⟩ := of_decide_eq_true a3
  exact ⟨b1, b2, b6, b8⟩
set_option maxHeartbeats 4000000 in
/-- the abstract machine's word on a method is the method's contract -/
theorem pb_sound {l : Launch} {base : Nat} {cst : Nat → Nat} {dC : Nat → ClassId} {dI : Nat → Nat → Nat} {cA : Nat → ClassId} {xs : List Int32} (hX : pb_TX l) (hB : ∀ mi, mi < 307 → pb_mok mi = true) (hB2 : ∀ mi, mi < 307 → (pb_CODE mi).all (fun q => q.2.all (fun el => pb_rk (pb_rt mi) el.1)) = true) :
    ∀ (d mi : Nat) (h : pb_HP) (as : List Value) (r : Option Value) (hE : pb_HP), mi < 307 → (as.map Value.category).sum ≤ pb_mL mi → pb_AR xs d mi h as r hE → pb_Ct l base cst dC dI cA xs (d + 8) mi h as r hE
  | 0, _, _, _, _, _, _, _, q => False.elim q
  | d + 1, mi, h, as, r, hE, hmi, hwd, q => by
    have hmono := pb_mono xs _ _ _ _ _ _ q
    obtain ⟨w1, w2, w3, w4, w5, w6, w7, w8, w9⟩ := pb_mw_spec hmi
    obtain ⟨u1, u2, u3, u4⟩ := pb_mw_spec2 hmi
    unfold pb_Ct
    refine Met.ofW (cc := pb_cc mi) (maxL := pb_mL mi) (ret := pb_rt mi) u3 rfl ?_
    intro p e s m args below meth c s₁ B hml hv
    obtain ⟨rfl, hsz, hP, hEX⟩ := hv
    have hx := B.exec
    have hb := B.bytes
    have hr := B.returns
    have hts0 := atoms_spec (ws := .code (pb_y mi) (pb_cc mi) (pb_mL mi) (pb_rt mi) :: pb_tbl) B.pre
    have hown : s.vm.findClass (pb_own (pb_ow mi)) = some m.cls := by rw [u2]; exact findClass_of_methodNamed B.named
    have hlocks := B.notSynchronized
    have F : pb_FX p (headSpec (.code (pb_y mi) (pb_cc mi) (pb_mL mi) (pb_rt mi) :: pb_tbl) (pb_rm (d + 1 + 8) (hE.1 - h.1) (pb_sl hE.1 - pb_sl h.1))).room s m (as.map (pb_vv base cst)).toArray c (pb_cc mi) (pb_mL mi) (pb_ow mi) base cst dC dI cA xs (d + 8) h.1 hE.1 :=
      ⟨hx, hb, hml, hown, u1, fun w hw => hts0 w (List.mem_cons_of_mem _ hw), hEX, hsz, Nat.le_refl _, Nat.le_refl _, by show d + 8 + 1 ≤ d + 1 + 8; omega, by show 64 * (d + 8 + 1) ≤ 64 * (d + 1 + 8); omega⟩
    have hG := q _ (pb_closed (l := l) (e := e) (below := below) (meth := meth) (Q := MQ below (pb_QC base cst dC dI cA r hE) (as.map (pb_vv base cst)).toArray s (hE.1 - h.1) (pb_sl hE.1 - pb_sl h.1) (pb_up base)) hX (by omega) F
      (fun k => by
        have k := Nat.eq_of_beq_eq_true k
        rw [← (w8.2 k).1]
        exact (name_of_methodNamed B.named B.method).1)
      (hB mi hmi) (hB2 mi hmi) (fun a h as v h1 k => ⟨pb_mono xs _ _ _ _ _ _ k, fun ha hw => pb_sound hX hB hB2 d a h as v h1 ha hw k⟩) (fun v h k => by rw [k.2]; exact Nat.le_refl _)
      (fun i v pc lsA st h2 H locs hret hrk hdc hfin hn0 hP hS => by
        obtain ⟨rfl, rfl⟩ := hfin
        have hq : ∀ t : State, t.heap = H → s.WarmedH t.vm → pb_QC base cst dC dI cA v h2 (as.map (pb_vv base cst)).toArray s (.returned (v.map (pb_vv base cst))) t := fun t ht hW => ⟨rfl, by rw [ht]; exact hP, hS.F ht⟩
        rcases hret with ⟨rfl, x, rfl, rfl, hz⟩ | ⟨rfl, x, rfl, rfl⟩ | ⟨rfl, ⟨x, rfl, rfl⟩ | ⟨rfl, rfl⟩⟩ | ⟨rfl, rfl, rfl⟩
        · rcases of_decide_eq_true hrk with t | t
          · exact W.iret hx hb (hr.trans t) hq hS.2.2 hdc
          · rw [u4, if_pos t] at hz
            refine W.zret hx hb (hr.trans t) ?_ hq hS.2.2 hdc
            rcases hz rfl with z | z <;> subst z <;> decide
        · exact W.lret hx hb (hr.trans (of_decide_eq_true hrk)) hq hS.2.2 hdc
        · rcases of_decide_eq_true hrk with t | t
          · exact W.aret hx hb (hr.trans t) (Or.inl ⟨_, rfl⟩) (Or.inr ⟨_, rfl⟩) hq hS.2.2 hdc
          · exact W.aret hx hb (hr.trans t) (Or.inl ⟨_, rfl⟩) (Or.inr ⟨_, rfl⟩) hq hS.2.2 hdc
        · rcases of_decide_eq_true hrk with t | t
          · exact W.aret hx hb (hr.trans t) (Or.inl ⟨_, rfl⟩) (Or.inl rfl) hq hS.2.2 hdc
          · exact W.aret hx hb (hr.trans t) (Or.inl ⟨_, rfl⟩) (Or.inl rfl) hq hS.2.2 hdc
        · exact W.vret hx hb (hr.trans (of_decide_eq_true hrk)) hq hS.2.2 hdc))
    have hl := lv_entry (as.map (pb_vv base cst)) (n := pb_mL mi) (by rw [pb_lg_len, pb_cat]; exact hwd)
    rw [pb_args] at hl
    rw [lg_entry_eq]
    have h2 := hG.2 (Nat.le_refl _) s.heap [] _ hP va_S.rf hl
    rw [Nat.sub_self, Nat.sub_self] at h2
    exact h2

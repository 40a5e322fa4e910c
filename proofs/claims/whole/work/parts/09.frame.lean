/-! What a frame of any method stands on: the tables, the rows and the text outside; and the judgement of the machine at an abstract state. -/
def pb_TXT : String := "man     child   has     fears   likes   show    hide    scare   treat   out     pick    year    prefers not     "
abbrev pb_up (base : Nat) : Nat → Prop := fun q => base ≤ q
def pb_SX (base : Nat) (cst : Nat → Nat) (U : State) (H : Heap) : Prop := ∃ adV : Nat → Nat, vk_R "PointedBench$Reader" 134 pb_TXT (cst 9) U ∧ vk_S 1 [112] [pb_WD] (fun _ => cst 9) adV (pb_up base) U H ∧ va_Z "java/lang/String" "COMPACT_STRINGS" "Z" (.int 1) (pb_up base) U H ∧ va_Zq "jdk/internal/util/Preconditions" "SIOOBE_FORMATTER" "Ljava/util/function/BiFunction;" (pb_up base) U H
def pb_EX (base : Nat) (cst : Nat → Nat) (dC : Nat → ClassId) (dI : Nat → Nat → Nat) (cA : Nat → ClassId) (xs : List Int32) (U : State) (H : Heap) : Prop :=
  va_K (dC, dI) pb_cl (pb_tys cA) U ∧ pb_ZX cst (pb_up base) U H ∧ (∀ k, 1 ≤ k → k ≤ 5 → va_T .int (cst k) (pb_E xs k).length (fun j => .int ((pb_E xs k).getD j 0)) (pb_up base) U H) ∧ (∀ a, 15 ≤ a → a < 18 → va_AO (pb_cn (pb_ec a)) U) ∧ va_Nw (.methodLinkNest "PointedBench$County" 77 (pb_y 164) "PointedBench") U ∧ pb_SX base cst U H
theorem pb_EX.go {base : Nat} {cst : Nat → Nat} {dC : Nat → ClassId} {dI : Nat → Nat → Nat} {cA : Nat → ClassId} {xs : List Int32} {s U : State} {H : Heap} (h : pb_EX base cst dC dI cA xs s s.heap) (hW : s.WarmedH U.vm) (hq : ∀ a : Nat, a < s.heap.size → ¬ pb_up base a → H[a]? = s.heap[a]?) : pb_EX base cst dC dI cA xs U H := by
  obtain ⟨h1, h2, h3, h4, h5, adV, h6, h7, h8, h9⟩ := h
  exact ⟨h1.moved hW.alike, fun k a b => ((h2 k a b).moved hW.alike).kept hq, fun k a b => ((h3 k a b).moved hW.alike).kept hq, fun a x y => (h4 a x y).moved hW.alike, h5.warmM hW, adV, h6.warm hW, (h7.moved hW.alike).kept hq, (h8.moved hW.alike).kept hq, (h9.moved hW.alike).kept hq⟩
theorem pb_EX.same {base : Nat} {cst : Nat → Nat} {dC : Nat → ClassId} {dI : Nat → Nat → Nat} {cA : Nat → ClassId} {xs : List Int32} {u U : State} {H : Heap} (hv : u.vm = U.vm) (h : pb_EX base cst dC dI cA xs u H) : pb_EX base cst dC dI cA xs U H := by
  obtain ⟨h1, h2, h3, h4, h5, adV, h6, h7, h8, h9⟩ := h
  have hA : u.vm.Alike U.vm := by rw [hv]; exact Vm.Alike.refl _
  exact ⟨h1.moved hA, fun k a b => (h2 k a b).moved hA, fun k a b => (h3 k a b).moved hA, fun a x y => (h4 a x y).moved hA, h5.same rfl hv, adV, h6.same hv.symm, h7.moved hA, h8.moved hA, h9.moved hA⟩
/-- the room of a method that goes d frames deep and makes mc objects -/
def pb_rm (d mc ms : Nat) : Room := { frames := d, cells := mc, slots := ms, locals := 64 * d }
def pb_PRE (base : Nat) (cst : Nat → Nat) (dC : Nat → ClassId) (dI : Nat → Nat → Nat) (cA : Nat → ClassId) (xs : List Int32) (h : pb_HP) (U : State) : Prop :=
  U.heap.size = base + h.1 ∧ va_P (dC, dI) pb_cl (pb_ws base cA h) U.heap ∧ pb_EX base cst dC dI cA xs U U.heap
def pb_QC (base : Nat) (cst : Nat → Nat) (dC : Nat → ClassId) (dI : Nat → Nat → Nat) (cA : Nat → ClassId) (r : Option Value) (h1 : pb_HP) : Array Value → State → Outcome → State → Prop :=
  fun _ st o t => o = .returned (r.map (pb_vv base cst)) ∧ va_P (dC, dI) pb_cl (pb_ws base cA h1) t.heap ∧ va_F (pb_up base) st t
/-- the contract of method mi at one start and one end -/
def pb_Ct (l : Launch) (base : Nat) (cst : Nat → Nat) (dC : Nat → ClassId) (dI : Nat → Nat → Nat) (cA : Nat → ClassId) (xs : List Int32) (d mi : Nat) (h : pb_HP) (as : List Value) (r : Option Value) (h1 : pb_HP) : Prop :=
  Met l (pb_y mi) (.code (pb_y mi) (pb_cc mi) (pb_mL mi) (pb_rt mi) :: pb_tbl) (pb_rm d (h1.1 - h.1) (pb_sl h1.1 - pb_sl h.1)) (va_Pc (as.map (pb_vv base cst)) (pb_PRE base cst dC dI cA xs h)) (pb_QC base cst dC dI cA r h1) (h1.1 - h.1) (pb_sl h1.1 - pb_sl h.1) (pb_up base)
/-- a frame: the machine, the code, the tables, the room -/
def pb_FX (p : Program) (R : Room) (s : State) (m : MethodId) (args : Array Value) (c : Code) (cc : ByteArray) (mL ow base : Nat) (cst : Nat → Nat) (dC : Nat → ClassId) (dI : Nat → Nat → Nat) (cA : Nat → ClassId) (xs : List Int32) (d n0 mx : Nat) : Prop :=
  p.tables.exec = Jvm.exec ∧ c.code = cc ∧ c.maxLocals = mL ∧ s.vm.findClass (pb_own ow) = some m.cls ∧ ow < 16 ∧ (∀ w ∈ pb_tbl, w.before args s = true) ∧ pb_EX base cst dC dI cA xs s s.heap ∧ s.heap.size = base + n0 ∧ mx - n0 ≤ R.cells ∧ pb_sl mx - pb_sl n0 ≤ R.slots ∧ d + 1 ≤ R.frames ∧ 64 * (d + 1) ≤ R.locals
def pb_WG (p : Program) (l : Launch) (e : Env) (R : Room) (s : State) (m : MethodId) (args : Array Value) (below : List Frame) (meth : Method) (c : Code) (Q : State → Prop) (base : Nat) (cst : Nat → Nat) (dC : Nat → ClassId) (dI : Nat → Nat → Nat) (cA : Nat → ClassId) (mL n0 mx : Nat) (pc : Nat) (ls : pb_LS) (st : List Value) (h : pb_HP) : Prop :=
  h.1 ≤ mx ∧ (n0 ≤ h.1 → ∀ (H : Heap) (locs : List Loc) (lsA : Array Slot), va_P (dC, dI) pb_cl (pb_ws base cA h) H → va_S (pb_up base) s.heap H locs → lv_has lsA mL (ls.map (pb_vp base cst)) →
    W p l e R s m args below meth c H locs (h.1 - n0) (pb_sl h.1 - pb_sl n0) Q (F0 m pc lsA (st.map (pb_vv base cst))))
/-- a way out of a method -/
def pb_ret (rz : Nat) (i : Instr) (v : Option Value) (st : List Value) : Prop :=
  (i = .ireturn ∧ ∃ x : Int32, v = some (.int x) ∧ st = [.int x] ∧ (rz = 1 → x = 0 ∨ x = 1)) ∨ (i = .lreturn ∧ ∃ x : Int64, v = some (.long x) ∧ st = [.long x]) ∨ (i = .areturn ∧ ((∃ x : Nat, v = some (.ref x) ∧ st = [.ref x]) ∨ (v = some .null ∧ st = [.null]))) ∨ (i = .return_ ∧ v = none ∧ st = [])
theorem pb_size {p : Program} {l : Launch} {e : Env} {R : Room} {s : State} {m : MethodId} {args : Array Value} {below : List Frame} {meth : Method} {c : Code} {H : Heap} {locs : List Loc} {cells slots : Nat} {Q : State → Prop} {g : JFrame} (k : H.size ≤ s.heap.size + cells → W p l e R s m args below meth c H locs cells slots Q g) : W p l e R s m args below meth c H locs cells slots Q g :=
  fun T hT X => k (by rw [← hT]; exact X.same.2.2.1) T hT X
theorem pb_low {base : Nat} {cA : Nat → ClassId} {dC : Nat → ClassId} {dI : Nat → Nat → Nat} {h : pb_HP} {H H0 : Heap} {locs : List Loc} {n0 : Nat} (hP : va_P (dC, dI) pb_cl (pb_ws base cA h) H) (hS : va_S (pb_up base) H0 H locs) (h0 : H0.size = base + n0) (hn : n0 ≤ h.1) : base + h.1 ≤ H.size := by
  rcases Nat.eq_or_lt_of_le hn with e | e
  · rw [← e, ← h0]
    exact hS.1
  · have hk : h.1 - 1 < h.1 := by omega
    have := (hP (h.1 - 1) _ (pb_ws_at hk)).lt
    dsimp only at this
    omega
theorem pb_in_vp {i : Int32} {n : Nat} (h : pb_in i n) : vp_in i n := by
  intro q
  rcases q with q | q
  · exact absurd h.1 (by rw [Int32.not_le]; exact q)
  · exact absurd h.2 (Nat.not_lt.mpr q)

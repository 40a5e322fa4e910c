/-! The abstract machine: objects by numbers, what they hold by functions; one block of code at a time as a proposition (what must hold ahead of it). -/
abbrev pb_LS : Type := List (Nat × Value)
abbrev pb_HP : Type := Nat × (Nat → Nat → Int32) × (Nat → Nat → Int64) × (Nat → Nat → Option Nat)
def pb_I (h : pb_HP) : Nat → Nat → Int32 := h.2.1
def pb_J (h : pb_HP) : Nat → Nat → Int64 := h.2.2.1
def pb_R (h : pb_HP) : Nat → Nat → Option Nat := h.2.2.2
def pb_pI (h : pb_HP) (o k : Nat) (v : Int32) : pb_HP := (h.1, va_up h.2.1 o (upd (h.2.1 o) k v), h.2.2)
def pb_pW (h : pb_HP) (o : Nat) (f : Nat → Int32) : pb_HP := (h.1, va_up h.2.1 o f, h.2.2)
def pb_pJ (h : pb_HP) (o k : Nat) (v : Int64) : pb_HP := (h.1, h.2.1, va_up h.2.2.1 o (vp_updL (h.2.2.1 o) k v), h.2.2.2)
def pb_pR (h : pb_HP) (o k : Nat) (v : Option Nat) : pb_HP := (h.1, h.2.1, h.2.2.1, va_up h.2.2.2 o (va_up (h.2.2.2 o) k v))
/-- a new one behind the others: all its places are 0 or null -/
def pb_nw (h : pb_HP) : pb_HP := (h.1 + 1, va_up h.2.1 h.1 (fun _ => 0), va_up h.2.2.1 h.1 (fun _ => 0), va_up h.2.2.2 h.1 (fun _ => none))
/-- the kind of an object (its number among the makers, or 12 and on: rows), and how long a row is -/
def pb_SH (o : Nat) : Nat × Nat := pb_SHL.getD o (99, 0)
abbrev pb_is (h : pb_HP) (o c : Nat) : Prop := o < h.1 ∧ (pb_SH o).1 = c
abbrev pb_in (i : Int32) (n : Nat) : Prop := 0 ≤ i ∧ i.toNatClampNeg < n
abbrev pb_ar (h : pb_HP) (o c : Nat) (i : Int32) : Prop := pb_is h o c ∧ pb_in i (pb_SH o).2
def pb_lk : pb_LS → Nat → Option Value
  | [], _ => none
  | q :: r, i => cond (Nat.beq q.1 i) (some q.2) (pb_lk r i)
def pb_ok1 (i : Nat) (q : Nat × Value) : Bool := !(Nat.beq q.1 i) && !(Nat.beq (q.1 + 1) i && Nat.beq q.2.category 2)
def pb_ok2 (i : Nat) (q : Nat × Value) : Bool := !(Nat.beq q.1 i) && (!(Nat.beq q.1 (i + 1)) && !(Nat.beq (q.1 + 1) i && Nat.beq q.2.category 2))
def pb_flt (f : Nat × Value → Bool) : pb_LS → pb_LS
  | [] => []
  | q :: r => cond (f q) (q :: pb_flt f r) (pb_flt f r)
def pb_st1 (i : Nat) (v : Value) : pb_LS → pb_LS
  | [] => [(i, v)]
  | q :: r => cond (Nat.beq q.1 i) ((i, v) :: pb_flt (pb_ok1 i) r) (cond (pb_ok1 i q) (q :: pb_st1 i v r) (pb_st1 i v r))
def pb_st2 (i : Nat) (v : Value) : pb_LS → pb_LS
  | [] => [(i, v)]
  | q :: r => cond (Nat.beq q.1 i) ((i, v) :: pb_flt (pb_ok2 i) r) (cond (pb_ok2 i q) (q :: pb_st2 i v r) (pb_st2 i v r))
def pb_li (a b : Nat) : Int32 := match b with
  | 0 => Int32.ofNat a
  | _ => -(Int32.ofNat a)
def pb_c1 (c : ClassFile.Cond) (x : Int32) : Prop := match c with
  | .eq => x = 0 | .ne => ¬ x = 0 | .lt => x < 0 | .ge => 0 ≤ x | .gt => 0 < x | .le => x ≤ 0
def pb_c2 (c : ClassFile.Cond) (x y : Int32) : Prop := match c with
  | .eq => x = y | .ne => ¬ x = y | .lt => x < y | .ge => y ≤ x | .gt => y < x | .le => x ≤ y
/-- what touches locals and stack alone, and goes through -/
def pb_s1 (i : Instr) (a b mL : Nat) (ls : pb_LS) (st : List Value) : Option (pb_LS × List Value) := match i with
  | .iconst _ => some (ls, .int (pb_li a b) :: st)
  | .bipush _ => some (ls, .int (pb_li a b) :: st)
  | .sipush _ => some (ls, .int (pb_li a b) :: st)
  | .lconst k => some (ls, .long (Int64.ofNat k.val) :: st)
  | .ldc _ => (match b with | 0 => some (ls, .int (pb_IC.getD a 0) :: st) | _ => some (ls, .retAddr a :: st))
  | .ldc_w _ => (match b with | 0 => some (ls, .int (pb_IC.getD a 0) :: st) | _ => none)
  | .ldc2_w _ => some (ls, .long (pb_LC.getD a 0) :: st)
  | .aconst_null => some (ls, .null :: st)
  | .getstatic _ => some (ls, .retAddr a :: st)
  | .iload k => (match pb_lk ls k with | some (.int x) => some (ls, .int x :: st) | _ => none)
  | .iload_n k => (match pb_lk ls k.val with | some (.int x) => some (ls, .int x :: st) | _ => none)
  | .lload k => (match pb_lk ls k with | some (.long x) => some (ls, .long x :: st) | _ => none)
  | .lload_n k => (match pb_lk ls k.val with | some (.long x) => some (ls, .long x :: st) | _ => none)
  | .aload k => (match pb_lk ls k with | some (.ref x) => some (ls, .ref x :: st) | some (.retAddr x) => some (ls, .retAddr x :: st) | some .null => some (ls, .null :: st) | _ => none)
  | .aload_n k => (match pb_lk ls k.val with | some (.ref x) => some (ls, .ref x :: st) | some (.retAddr x) => some (ls, .retAddr x :: st) | some .null => some (ls, .null :: st) | _ => none)
  | .istore k => (match st with | .int x :: r => (match Nat.blt k mL with | true => some (pb_st1 k (.int x) ls, r) | _ => none) | _ => none)
  | .istore_n k => (match st with | .int x :: r => (match Nat.blt k.val mL with | true => some (pb_st1 k.val (.int x) ls, r) | _ => none) | _ => none)
  | .lstore k => (match st with | .long x :: r => (match Nat.blt (k + 1) mL with | true => some (pb_st2 k (.long x) ls, r) | _ => none) | _ => none)
  | .lstore_n k => (match st with | .long x :: r => (match Nat.blt (k.val + 1) mL with | true => some (pb_st2 k.val (.long x) ls, r) | _ => none) | _ => none)
  | .astore k => (match st with | .ref x :: r => (match Nat.blt k mL with | true => some (pb_st1 k (.ref x) ls, r) | _ => none) | .null :: r => (match Nat.blt k mL with | true => some (pb_st1 k .null ls, r) | _ => none) | _ => none)
  | .astore_n k => (match st with | .ref x :: r => (match Nat.blt k.val mL with | true => some (pb_st1 k.val (.ref x) ls, r) | _ => none) | .null :: r => (match Nat.blt k.val mL with | true => some (pb_st1 k.val .null ls, r) | _ => none) | _ => none)
  | .iinc k n => (match pb_lk ls k with | some (.int x) => (match Nat.blt k mL with | true => some (pb_st1 k (.int (x + pb_li a b)) ls, st) | _ => none) | _ => none)
  | .iadd => (match st with | .int y :: .int x :: r => some (ls, .int (x + y) :: r) | _ => none)
  | .isub => (match st with | .int y :: .int x :: r => some (ls, .int (x - y) :: r) | _ => none)
  | .imul => (match st with | .int y :: .int x :: r => some (ls, .int (x * y) :: r) | _ => none)
  | .iand => (match st with | .int y :: .int x :: r => some (ls, .int (x &&& y) :: r) | _ => none)
  | .ior => (match st with | .int y :: .int x :: r => some (ls, .int (x ||| y) :: r) | _ => none)
  | .ixor => (match st with | .int y :: .int x :: r => some (ls, .int (x ^^^ y) :: r) | _ => none)
  | .ishl => (match st with | .int y :: .int x :: r => some (ls, .int (x <<< (y &&& 31)) :: r) | _ => none)
  | .ishr => (match st with | .int y :: .int x :: r => some (ls, .int (x >>> (y &&& 31)) :: r) | _ => none)
  | .iushr => (match st with | .int y :: .int x :: r => some (ls, .int ((x.toUInt32 >>> (y.toUInt32 &&& Int32.toUInt32 31)).toInt32) :: r) | _ => none)
  | .ineg => (match st with | .int x :: r => some (ls, .int (-x) :: r) | _ => none)
  | .ladd => (match st with | .long y :: .long x :: r => some (ls, .long (x + y) :: r) | _ => none)
  | .lsub => (match st with | .long y :: .long x :: r => some (ls, .long (x - y) :: r) | _ => none)
  | .lmul => (match st with | .long y :: .long x :: r => some (ls, .long (x * y) :: r) | _ => none)
  | .lor => (match st with | .long y :: .long x :: r => some (ls, .long (x ||| y) :: r) | _ => none)
  | .lshl => (match st with | .int y :: .long x :: r => some (ls, .long (x <<< (y.toInt64 &&& 63)) :: r) | _ => none)
  | .lcmp => (match st with | .long y :: .long x :: r => some (ls, .int (lg_cmp x y) :: r) | _ => none)
  | .i2l => (match st with | .int x :: r => some (ls, .long x.toInt64 :: r) | _ => none)
  | .i2b => (match st with | .int x :: r => some (ls, .int x.toInt8.toInt32 :: r) | _ => none)
  | .dup => (match st with | .int x :: r => some (ls, .int x :: .int x :: r) | .ref x :: r => some (ls, .ref x :: .ref x :: r) | _ => none)
  | .dup2 => (match st with | .int y :: .ref x :: r => some (ls, .int y :: .ref x :: .int y :: .ref x :: r) | _ => none)
  | .pop => (match st with | .int _ :: r => some (ls, r) | _ => none)
  | _ => none
def pb_ty (c k : Nat) : Nat := (pb_FTY.getD c []).getD k 0
/-- a row's contents that stand outside: by their numbers -/
def pb_swt (pc : Nat) (dflt lo hi : Int) (offs : Array Int) (x : Int32) : Nat := if x.toInt < lo ∨ hi < x.toInt then ((pc : Int) + dflt).toNat else ((pc : Int) + offs.getD (x.toInt - lo).toNat 0).toNat
def pb_E (xs : List Int32) (k : Nat) : List Int32 := match k with
  | 1 => pb_S1 | 2 => pb_S2 | 3 => pb_S3 | 4 => pb_S4 | 5 => xs | _ => []
def pb_byt (f : Nat → Int32) (sp n : Nat) : Prop := ∀ i, i < n → (f (sp + i)).toInt8.toInt32 = f (sp + i)
/-- what must hold ahead of a block: CR: what a call does; G: what must hold where the block ends; FIN: at the method's end -/
def pb_bw (CR : Nat → pb_HP → List Value → Option Value → pb_HP → Prop) (G : Nat → pb_LS → List Value → pb_HP → Prop) (FIN : Option Value → pb_HP → Prop) (mL rz : Nat) (xs : List Int32) : List pb_El → Nat → pb_LS → List Value → pb_HP → Prop
  | [], pc, ls, st, h => G pc ls st h
  | (i, n, a, b) :: r, pc, ls, st, h => match i with
    | .goto _ => G a ls st h
    | .ifCond c _ => (match st with | .int x :: s => (pb_c1 c x → G a ls s h) ∧ (¬ pb_c1 c x → pb_bw CR G FIN mL rz xs r (pc + n) ls s h) | _ => False)
    | .if_icmp c _ => (match st with | .int y :: .int x :: s => (pb_c2 c x y → G a ls s h) ∧ (¬ pb_c2 c x y → pb_bw CR G FIN mL rz xs r (pc + n) ls s h) | _ => False)
    | .ifnull _ => (match st with | .ref _ :: s => pb_bw CR G FIN mL rz xs r (pc + n) ls s h | .null :: s => G a ls s h | _ => False)
    | .ifnonnull _ => (match st with | .ref _ :: s => G a ls s h | .null :: s => pb_bw CR G FIN mL rz xs r (pc + n) ls s h | _ => False)
    | .tableswitch d lo hi offs => (match st with | .int x :: s => G (pb_swt pc d lo hi offs x) ls s h | _ => False)
    | .ireturn => (match st with | [.int x] => (rz = 1 → x = 0 ∨ x = 1) ∧ FIN (some (.int x)) h | _ => False)
    | .lreturn => (match st with | [.long x] => FIN (some (.long x)) h | _ => False)
    | .areturn => (match st with | [.ref x] => FIN (some (.ref x)) h | [.null] => FIN (some .null) h | _ => False)
    | .return_ => (match st with | [] => FIN none h | _ => False)
    | .idiv => (match st with | .int y :: .int x :: s => ¬ y = 0 ∧ pb_bw CR G FIN mL rz xs r (pc + n) ls (.int (x / y) :: s) h | _ => False)
    | .irem => (match st with | .int y :: .int x :: s => ¬ y = 0 ∧ pb_bw CR G FIN mL rz xs r (pc + n) ls (.int (x - x / y * y) :: s) h | _ => False)
    | .ldiv => (match st with | .long y :: .long x :: s => ¬ y = 0 ∧ pb_bw CR G FIN mL rz xs r (pc + n) ls (.long (x / y) :: s) h | _ => False)
    | .lrem => (match st with | .long y :: .long x :: s => ¬ y = 0 ∧ pb_bw CR G FIN mL rz xs r (pc + n) ls (.long (x - x / y * y) :: s) h | _ => False)
    | .getfield _ => (match st with
      | .ref o :: s => pb_is h o a ∧ (match pb_ty a b with
        | 1 => pb_bw CR G FIN mL rz xs r (pc + n) ls (.long (pb_J h o b) :: s) h
        | 2 => ∃ q, pb_R h o b = some q ∧ pb_bw CR G FIN mL rz xs r (pc + n) ls (.ref q :: s) h
        | _ => pb_bw CR G FIN mL rz xs r (pc + n) ls (.int (pb_I h o b) :: s) h)
      | _ => False)
    | .putfield _ => (match st with
      | .int v :: .ref o :: s => pb_is h o a ∧ (match pb_ty a b with
        | 0 => pb_bw CR G FIN mL rz xs r (pc + n) ls s (pb_pI h o b v)
        | 3 => (v = 0 ∨ v = 1) ∧ pb_bw CR G FIN mL rz xs r (pc + n) ls s (pb_pI h o b v)
        | _ => False)
      | .long v :: .ref o :: s => pb_is h o a ∧ (match pb_ty a b with
        | 1 => pb_bw CR G FIN mL rz xs r (pc + n) ls s (pb_pJ h o b v)
        | _ => False)
      | .ref v :: .ref o :: s => pb_is h o a ∧ (match pb_ty a b with
        | 2 => pb_bw CR G FIN mL rz xs r (pc + n) ls s (pb_pR h o b (some v))
        | _ => False)
      | _ => False)
    | .iaload => (match st with
      | .int i :: .ref o :: s => pb_ar h o 12 i ∧ pb_bw CR G FIN mL rz xs r (pc + n) ls (.int (pb_I h o i.toNatClampNeg) :: s) h
      | .int i :: .retAddr k :: s => pb_in i (pb_E xs k).length ∧ pb_bw CR G FIN mL rz xs r (pc + n) ls (.int ((pb_E xs k).getD i.toNatClampNeg 0) :: s) h
      | _ => False)
    | .iastore => (match st with
      | .int v :: .int i :: .ref o :: s => pb_ar h o 12 i ∧ pb_bw CR G FIN mL rz xs r (pc + n) ls s (pb_pI h o i.toNatClampNeg v)
      | _ => False)
    | .baload => (match st with
      | .int i :: .ref o :: s => (match a with
        | 13 => pb_ar h o 13 i ∧ pb_bw CR G FIN mL rz xs r (pc + n) ls (.int (pb_I h o i.toNatClampNeg) :: s) h
        | 14 => pb_ar h o 14 i ∧ pb_bw CR G FIN mL rz xs r (pc + n) ls (.int (pb_I h o i.toNatClampNeg) :: s) h
        | _ => False)
      | _ => False)
    | .bastore => (match st with
      | .int v :: .int i :: .ref o :: s => (match a with
        | 13 => pb_ar h o 13 i ∧ pb_bw CR G FIN mL rz xs r (pc + n) ls s (pb_pI h o i.toNatClampNeg v.toInt8.toInt32)
        | 14 => pb_ar h o 14 i ∧ (v = 0 ∨ v = 1) ∧ pb_bw CR G FIN mL rz xs r (pc + n) ls s (pb_pI h o i.toNatClampNeg v)
        | _ => False)
      | _ => False)
    | .aaload => (match st with
      | .int i :: .ref o :: s => (15 ≤ a ∧ a < 18) ∧ pb_ar h o a i ∧ ∃ q, pb_R h o i.toNatClampNeg = some q ∧ pb_bw CR G FIN mL rz xs r (pc + n) ls (.ref q :: s) h
      | _ => False)
    | .aastore => (match st with
      | .ref v :: .int i :: .ref o :: s => (15 ≤ a ∧ a < 18) ∧ pb_ar h o a i ∧ pb_is h v b ∧ pb_bw CR G FIN mL rz xs r (pc + n) ls s (pb_pR h o i.toNatClampNeg (some v))
      | _ => False)
    | .arraylength => (match st with
      | .ref o :: s => (12 ≤ a ∧ a < 18) ∧ pb_is h o a ∧ pb_bw CR G FIN mL rz xs r (pc + n) ls (.int (Int32.ofNat (pb_SH o).2) :: s) h
      | .retAddr k :: s => (1 ≤ k ∧ k ≤ 5) ∧ pb_bw CR G FIN mL rz xs r (pc + n) ls (.int (Int32.ofNat (pb_E xs k).length) :: s) h
      | _ => False)
    | .new _ => pb_SH h.1 = (a, 0) ∧ pb_bw CR G FIN mL rz xs r (pc + n) ls (.ref h.1 :: st) (pb_nw h)
    | .newarray _ => (match st with
      | .int v :: s => 0 ≤ v ∧ pb_SH h.1 = (a, v.toNatClampNeg) ∧ pb_bw CR G FIN mL rz xs r (pc + n) ls (.ref h.1 :: s) (pb_nw h)
      | _ => False)
    | .anewarray _ => (match st with
      | .int v :: s => 0 ≤ v ∧ pb_SH h.1 = (a, v.toNatClampNeg) ∧ pb_bw CR G FIN mL rz xs r (pc + n) ls (.ref h.1 :: s) (pb_nw h)
      | _ => False)
    | .invokevirtual _ => (match a with
      | 1002 => (match st with
        | .int i :: .retAddr k :: s => k = 9 ∧ pb_in i pb_WD.length ∧ (s.map Value.category).sum ≤ 8 ∧ pb_bw CR G FIN mL rz xs r (pc + n) ls (.int (pb_WD.getD i.toNatClampNeg 0) :: s) h
        | _ => False)
      | _ => (match st.drop (b - 1) with
        | .ref o :: s => pb_is h o (pb_mc a) ∧ (s.map Value.category).sum ≤ 8 ∧ ((st.take b).map Value.category).sum ≤ pb_mL a ∧ ∃ v h1, CR a h (st.take b).reverse v h1 ∧ pb_bw CR G FIN mL rz xs r (pc + n) ls (v.toList ++ s) h1
        | _ => False))
    | .invokespecial _ => (match a with
      | 1001 => (match st with
        | .ref _ :: s => (s.map Value.category).sum ≤ 8 ∧ pb_bw CR G FIN mL rz xs r (pc + n) ls s h
        | _ => False)
      | _ => (match st.drop (b - 1) with
        | .ref o :: s => (s.map Value.category).sum ≤ 8 ∧ ((st.take b).map Value.category).sum ≤ pb_mL a ∧ ∃ v h1, CR a h (st.take b).reverse v h1 ∧ pb_bw CR G FIN mL rz xs r (pc + n) ls (v.toList ++ s) h1
        | _ => False))
    | .invokestatic _ => (match a with
      | 1000 => (match st with
        | .int k :: .int dp :: .ref o2 :: .int sp :: .ref o1 :: s => (b = 12 ∨ (b = 13 ∧ pb_byt (pb_I h o1) sp.toNatClampNeg k.toNatClampNeg)) ∧ pb_is h o1 b ∧ pb_is h o2 b ∧ 0 ≤ sp ∧ 0 ≤ dp ∧ 0 ≤ k ∧ sp.toNatClampNeg + k.toNatClampNeg ≤ (pb_SH o1).2 ∧ dp.toNatClampNeg + k.toNatClampNeg ≤ (pb_SH o2).2 ∧ (s.map Value.category).sum ≤ 8 ∧
            pb_bw CR G FIN mL rz xs r (pc + n) ls s (pb_pW h o2 (va_cpy (pb_I h o1) (pb_I h o2) sp.toNatClampNeg dp.toNatClampNeg k.toNatClampNeg))
        | _ => False)
      | 1003 => (match st with
        | .int y :: .int x :: s => (s.map Value.category).sum ≤ 8 ∧ pb_bw CR G FIN mL rz xs r (pc + n) ls (.int (if x < y then y else x) :: s) h
        | _ => False)
      | 1004 => (match st with
        | .int y :: .int x :: s => (s.map Value.category).sum ≤ 8 ∧ pb_bw CR G FIN mL rz xs r (pc + n) ls (.int (if y < x then y else x) :: s) h
        | _ => False)
      | 1005 => (match st with
        | .int x :: s => (s.map Value.category).sum ≤ 8 ∧ pb_bw CR G FIN mL rz xs r (pc + n) ls (.int (if 0 ≤ x then x else 0 - x) :: s) h
        | _ => False)
      | _ => b ≤ st.length ∧ ((st.drop b).map Value.category).sum ≤ 8 ∧ ((st.take b).map Value.category).sum ≤ pb_mL a ∧ ∃ v h1, CR a h (st.take b).reverse v h1 ∧ pb_bw CR G FIN mL rz xs r (pc + n) ls (v.toList ++ st.drop b) h1)
    | _ => (match pb_s1 i a b mL ls st with | some (ls2, st2) => pb_bw CR G FIN mL rz xs r (pc + n) ls2 st2 h | none => False)
/-- a judgement that is closed under the blocks of a method, and under fewer locals -/
def pb_Cl (CR : Nat → pb_HP → List Value → Option Value → pb_HP → Prop) (K : List (Nat × List pb_El)) (FIN : Option Value → pb_HP → Prop) (mL rz : Nat) (xs : List Int32) (G : Nat → pb_LS → List Value → pb_HP → Prop) : Prop :=
  (∀ (i pc : Nat) (B : List pb_El) (ls : pb_LS) (st : List Value) (h : pb_HP), K[i]? = some (pc, B) → pb_bw CR G FIN mL rz xs B pc ls st h → G pc ls st h) ∧
  (∀ (pc : Nat) (ls : pb_LS) (ks : List Nat) (ls' : pb_LS) (st : List Value) (h : pb_HP), lv_pick ls ks = ls' → G pc ls' st h → G pc ls st h)
/-- the method mi, begun over h with these arguments, ends with r over hE, at most d frames deep -/
def pb_AR (xs : List Int32) : Nat → Nat → pb_HP → List Value → Option Value → pb_HP → Prop
  | 0, _, _, _, _, _ => False
  | d + 1, mi, h, as, r, hE => ∀ G, pb_Cl (pb_AR xs d) (pb_CODE mi) (fun v h' => v = r ∧ h' = hE) (pb_mL mi) (pb_rz mi) xs G → G 0 (lv_args 0 as) [] h
